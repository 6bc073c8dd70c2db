theorem bl_X0_noteEnds_0 {Q : ab_Po} {G : ab_Gt} (hG : ab_Cl M_X0_noteEnds Q G) (t0 : Nat) (t1 : Nat) (S : ab_S) (h : G 2 [some (.inr (4, t0)), some (.inr (19, t1)), some (.inl (0 : Int32))] [] S 0) : G 0 [some (.inr (4, t0)), some (.inr (19, t1)), none] [] S 0 := by
  refine ab_iconst' hG 0 _ _ _ _ 0 0 dX0_noteEnds_0 (by decide) ?_
  refine ab_istore_n' hG 1 _ _ _ _ 2 _ dX0_noteEnds_1 (Nat.le_of_ble_eq_true rfl) ?_
  exact h
theorem bl_X0_noteEnds_2 {Q : ab_Po} {G : ab_Gt} (hG : ab_Cl M_X0_noteEnds Q G) (t0 : Nat) (t1 : Nat) (x2 : Int32) (S : ab_S) (h : ((S 4 t0 4) ≤ x2 → Q (.inl none) S) ∧ (¬ (S 4 t0 4) ≤ x2 → Sp_X4_endOf [(.inr (4, t0)), (.inl x2)] S (ab_back Q G 17 [some (.inr (4, t0)), some (.inr (19, t1)), some (.inl x2)] [(.inl x2), (.inr (19, t1))] 0))) : G 2 [some (.inr (4, t0)), some (.inr (19, t1)), some (.inl x2)] [] S 0 := by
  refine ab_iload_n' hG 2 _ _ _ _ 2 _ dX0_noteEnds_2 rfl ?_
  refine ab_aload_n' hG 3 _ _ _ _ 0 _ dX0_noteEnds_3 rfl ?_
  refine ab_gI hG 4 _ _ _ _ 30 4 4 t0 dX0_noteEnds_4 (List.Mem.head _) rfl ?_
  refine ab_icmp_ge' hG 7 _ _ _ _ (17) 24 _ _ dX0_noteEnds_7 (by decide) (fun hc => ?_) (fun hc => ?_)
  · have h := h.1 hc
    exact ab_return_' hG 24 _ _ _ dX0_noteEnds_24 rfl (by decide) h
  · have h := h.2 hc
    refine ab_aload_n' hG 10 _ _ _ _ 1 _ dX0_noteEnds_10 rfl ?_
    refine ab_iload_n' hG 11 _ _ _ _ 2 _ dX0_noteEnds_11 rfl ?_
    refine ab_aload_n' hG 12 _ _ _ _ 0 _ dX0_noteEnds_12 rfl ?_
    refine ab_iload_n' hG 13 _ _ _ _ 2 _ dX0_noteEnds_13 rfl ?_
    exact ab_invv' hG 14 _ [_] _ _ 0 48 _ 1 1 0 _ (4, _) dX0_noteEnds_14 rfl rfl rfl rfl (Nat.le_of_ble_eq_true rfl) (Nat.le_of_ble_eq_true rfl) h
theorem bl_X0_noteEnds_17 {Q : ab_Po} {G : ab_Gt} (hG : ab_Cl M_X0_noteEnds Q G) (t0 : Nat) (t1 : Nat) (x2 : Int32) (xs0 : Int32) (xs1 : Int32) (ts2 : Nat) (S : ab_S) (h : vp_in xs1 24 ∧ (∀ S1 : ab_S, S1 = ab_su S 19 ts2 xs1.toNatClampNeg xs0 → G 2 [some (.inr (4, t0)), some (.inr (19, t1)), some (.inl (x2 + 1))] [] S1 0)) : G 17 [some (.inr (4, t0)), some (.inr (19, t1)), some (.inl x2)] [(.inl xs0), (.inl xs1), (.inr (19, ts2))] S 0 := by
  refine ab_iastore' hG 17 _ _ _ _ 19 ts2 24 _ _ dX0_noteEnds_17 rfl h.1 ?_
  have h := h.2
  have h := h _ rfl
  refine ab_iinc' hG 18 _ _ _ _ 2 1 _ _ dX0_noteEnds_18 rfl rfl ?_
  refine ab_goto' hG 21 _ _ _ _ (-19) 2 dX0_noteEnds_21 (by decide) ?_
  exact h
theorem bl_X0_isWidest_0 {Q : ab_Po} {G : ab_Gt} (hG : ab_Cl M_X0_isWidest Q G) (t0 : Nat) (t1 : Nat) (x2 : Int32) (S : ab_S) (h : (x2 = 0 → Q (.inl (some (1 : Int32))) S) ∧ (¬ x2 = 0 → Sp_X4_parentSpot [(.inr (4, t0)), (.inl x2)] S (ab_back Q G 10 [some (.inr (4, t0)), some (.inr (19, t1)), some (.inl x2)] [(.inr (19, t1))] 0))) : G 0 [some (.inr (4, t0)), some (.inr (19, t1)), some (.inl x2)] [] S 0 := by
  refine ab_iload_n' hG 0 _ _ _ _ 2 _ dX0_isWidest_0 rfl ?_
  refine ab_if_eq' hG 1 _ _ _ _ (16) 17 _ dX0_isWidest_1 (by decide) (fun hc => ?_) (fun hc => ?_)
  · have h := h.1 hc
    refine ab_iconst' hG 17 _ _ _ _ 1 1 dX0_isWidest_17 (by decide) ?_
    refine ab_goto' hG 18 _ _ _ _ (4) 22 dX0_isWidest_18 (by decide) ?_
    exact ab_ireturn' hG 22 _ _ _ _ dX0_isWidest_22 (Or.inr ⟨rfl, Or.inr rfl⟩) (by decide) h
  · have h := h.2 hc
    refine ab_aload_n' hG 4 _ _ _ _ 1 _ dX0_isWidest_4 rfl ?_
    refine ab_aload_n' hG 5 _ _ _ _ 0 _ dX0_isWidest_5 rfl ?_
    refine ab_iload_n' hG 6 _ _ _ _ 2 _ dX0_isWidest_6 rfl ?_
    exact ab_invv' hG 7 _ [_] _ _ 0 52 _ 1 1 0 _ (4, _) dX0_isWidest_7 rfl rfl rfl rfl (Nat.le_of_ble_eq_true rfl) (Nat.le_of_ble_eq_true rfl) h
theorem bl_X0_isWidest_10 {Q : ab_Po} {G : ab_Gt} (hG : ab_Cl M_X0_isWidest Q G) (t0 : Nat) (t1 : Nat) (x2 : Int32) (xs0 : Int32) (ts1 : Nat) (S : ab_S) (h : vp_in xs0 24 ∧ vp_in x2 24 ∧ ((S 19 ts1 xs0.toNatClampNeg) = (S 19 t1 x2.toNatClampNeg) → Q (.inl (some (0 : Int32))) S) ∧ (¬ (S 19 ts1 xs0.toNatClampNeg) = (S 19 t1 x2.toNatClampNeg) → Q (.inl (some (1 : Int32))) S)) : G 10 [some (.inr (4, t0)), some (.inr (19, t1)), some (.inl x2)] [(.inl xs0), (.inr (19, ts1))] S 0 := by
  refine ab_iaload' hG 10 _ _ _ _ 19 ts1 24 _ dX0_isWidest_10 rfl h.1 ?_
  have h := h.2
  refine ab_aload_n' hG 11 _ _ _ _ 1 _ dX0_isWidest_11 rfl ?_
  refine ab_iload_n' hG 12 _ _ _ _ 2 _ dX0_isWidest_12 rfl ?_
  refine ab_iaload' hG 13 _ _ _ _ 19 t1 24 _ dX0_isWidest_13 rfl h.1 ?_
  have h := h.2
  refine ab_icmp_eq' hG 14 _ _ _ _ (7) 21 _ _ dX0_isWidest_14 (by decide) (fun hc => ?_) (fun hc => ?_)
  · have h := h.1 hc
    refine ab_iconst' hG 21 _ _ _ _ 0 0 dX0_isWidest_21 (by decide) ?_
    exact ab_ireturn' hG 22 _ _ _ _ dX0_isWidest_22 (Or.inr ⟨rfl, Or.inl rfl⟩) (by decide) h
  · have h := h.2 hc
    refine ab_iconst' hG 17 _ _ _ _ 1 1 dX0_isWidest_17 (by decide) ?_
    refine ab_goto' hG 18 _ _ _ _ (4) 22 dX0_isWidest_18 (by decide) ?_
    exact ab_ireturn' hG 22 _ _ _ _ dX0_isWidest_22 (Or.inr ⟨rfl, Or.inr rfl⟩) (by decide) h
theorem bl_X0_least_0 {Q : ab_Po} {G : ab_Gt} (hG : ab_Cl M_X0_least Q G) (x1 : Int32) (x2 : Int32) (x3 : Int32) (S : ab_S) (h : vp_in (x1 + (1 : Int32)) 25 ∧ vp_in x2 25 ∧ vp_in x1 25 ∧ vp_in (x2 + (1 : Int32)) 25 ∧ Q (.inl (some (if x3 < (if S 18 x1.toNatClampNeg (x2 + (1 : Int32)).toNatClampNeg < S 18 ((x1 + (1 : Int32)).toNatClampNeg) x2.toNatClampNeg then S 18 x1.toNatClampNeg (x2 + (1 : Int32)).toNatClampNeg else S 18 ((x1 + (1 : Int32)).toNatClampNeg) x2.toNatClampNeg) + (1 : Int32) then x3 else (if S 18 x1.toNatClampNeg (x2 + (1 : Int32)).toNatClampNeg < S 18 ((x1 + (1 : Int32)).toNatClampNeg) x2.toNatClampNeg then S 18 x1.toNatClampNeg (x2 + (1 : Int32)).toNatClampNeg else S 18 ((x1 + (1 : Int32)).toNatClampNeg) x2.toNatClampNeg) + (1 : Int32)))) S) : G 0 [some (.inr (3, 0)), some (.inl x1), some (.inl x2), some (.inl x3), none] [] S 0 := by
  refine ab_aload_n' hG 0 _ _ _ _ 0 _ dX0_least_0 rfl ?_
  refine ab_gR hG 1 _ _ _ _ 16 3 1 0 (17, 0) dX0_least_1 (List.Mem.head _) rfl ?_
  refine ab_iload_n' hG 4 _ _ _ _ 1 _ dX0_least_4 rfl ?_
  refine ab_iconst' hG 5 _ _ _ _ 1 1 dX0_least_5 (by decide) ?_
  refine ab_iadd' hG 6 _ _ _ _ _ _ dX0_least_6 ?_
  refine ab_aaload3' hG 7 _ _ _ _ 17 0 25 _ dX0_least_7 rfl h.1 ?_
  have h := h.2
  refine ab_iload_n' hG 8 _ _ _ _ 2 _ dX0_least_8 rfl ?_
  refine ab_iaload' hG 9 _ _ _ _ 18 ((x1 + (1 : Int32)).toNatClampNeg) 25 _ dX0_least_9 rfl h.1 ?_
  have h := h.2
  refine ab_aload_n' hG 10 _ _ _ _ 0 _ dX0_least_10 rfl ?_
  refine ab_gR hG 11 _ _ _ _ 16 3 1 0 (17, 0) dX0_least_11 (List.Mem.head _) rfl ?_
  refine ab_iload_n' hG 14 _ _ _ _ 1 _ dX0_least_14 rfl ?_
  refine ab_aaload3' hG 15 _ _ _ _ 17 0 25 _ dX0_least_15 rfl h.1 ?_
  have h := h.2
  refine ab_iload_n' hG 16 _ _ _ _ 2 _ dX0_least_16 rfl ?_
  refine ab_iconst' hG 17 _ _ _ _ 1 1 dX0_least_17 (by decide) ?_
  refine ab_iadd' hG 18 _ _ _ _ _ _ dX0_least_18 ?_
  refine ab_iaload' hG 19 _ _ _ _ 18 x1.toNatClampNeg 25 _ dX0_least_19 rfl h.1 ?_
  have h := h.2
  refine ab_min' hG 20 _ _ _ _ 65 _ _ dX0_least_20 (List.Mem.head _) (Nat.le_of_ble_eq_true rfl) (Nat.le_of_ble_eq_true rfl) ?_
  refine ab_iconst' hG 23 _ _ _ _ 1 1 dX0_least_23 (by decide) ?_
  refine ab_iadd' hG 24 _ _ _ _ _ _ dX0_least_24 ?_
  refine ab_istore' hG 25 _ _ _ _ 4 _ dX0_least_25 (Nat.le_of_ble_eq_true rfl) ?_
  refine ab_iload' hG 27 _ _ _ _ 4 _ dX0_least_27 rfl ?_
  refine ab_iload_n' hG 29 _ _ _ _ 3 _ dX0_least_29 rfl ?_
  refine ab_min' hG 30 _ _ _ _ 65 _ _ dX0_least_30 (List.Mem.head _) (Nat.le_of_ble_eq_true rfl) (Nat.le_of_ble_eq_true rfl) ?_
  exact ab_ireturn' hG 33 _ _ _ _ dX0_least_33 (Or.inl rfl) (by decide) h
theorem bl_X0_compareParts_0 {Q : ab_Po} {G : ab_Gt} (hG : ab_Cl M_X0_compareParts Q G) (t1 : Nat) (t2 : Nat) (x3 : Int32) (x4 : Int32) (S : ab_S) (h : vp_in x3 24 ∧ vp_in x4 24 ∧ G 21 [some (.inr (3, 0)), some (.inr (4, t1)), some (.inr (4, t2)), some (.inl x3), some (.inl x4), some (.inl (S 19 0 x3.toNatClampNeg)), some (.inl (S 19 1 x4.toNatClampNeg)), some (.inl (S 19 0 x3.toNatClampNeg)), none, none] [] S 0) : G 0 [some (.inr (3, 0)), some (.inr (4, t1)), some (.inr (4, t2)), some (.inl x3), some (.inl x4), none, none, none, none, none] [] S 0 := by
  refine ab_aload_n' hG 0 _ _ _ _ 0 _ dX0_compareParts_0 rfl ?_
  refine ab_gR hG 1 _ _ _ _ 19 3 2 0 (19, 0) dX0_compareParts_1 (List.Mem.head _) rfl ?_
  refine ab_iload_n' hG 4 _ _ _ _ 3 _ dX0_compareParts_4 rfl ?_
  refine ab_iaload' hG 5 _ _ _ _ 19 0 24 _ dX0_compareParts_5 rfl h.1 ?_
  have h := h.2
  refine ab_istore' hG 6 _ _ _ _ 5 _ dX0_compareParts_6 (Nat.le_of_ble_eq_true rfl) ?_
  refine ab_aload_n' hG 8 _ _ _ _ 0 _ dX0_compareParts_8 rfl ?_
  refine ab_gR hG 9 _ _ _ _ 23 3 3 0 (19, 1) dX0_compareParts_9 (List.Mem.tail _ (List.Mem.head _)) rfl ?_
  refine ab_iload' hG 12 _ _ _ _ 4 _ dX0_compareParts_12 rfl ?_
  refine ab_iaload' hG 14 _ _ _ _ 19 1 24 _ dX0_compareParts_14 rfl h.1 ?_
  have h := h.2
  refine ab_istore' hG 15 _ _ _ _ 6 _ dX0_compareParts_15 (Nat.le_of_ble_eq_true rfl) ?_
  refine ab_iload' hG 17 _ _ _ _ 5 _ dX0_compareParts_17 rfl ?_
  refine ab_istore' hG 19 _ _ _ _ 7 _ dX0_compareParts_19 (Nat.le_of_ble_eq_true rfl) ?_
  exact h
theorem bl_X0_compareParts_21 {Q : ab_Po} {G : ab_Gt} (hG : ab_Cl M_X0_compareParts Q G) (t1 : Nat) (t2 : Nat) (x3 : Int32) (x4 : Int32) (x5 : Int32) (x6 : Int32) (x7 : Int32) (S : ab_S) (h : (x7 < x3 → Q (.inl none) S) ∧ (¬ x7 < x3 → G 31 [some (.inr (3, 0)), some (.inr (4, t1)), some (.inr (4, t2)), some (.inl x3), some (.inl x4), some (.inl x5), some (.inl x6), some (.inl x7), some (.inl x6), none] [] S 0)) : G 21 [some (.inr (3, 0)), some (.inr (4, t1)), some (.inr (4, t2)), some (.inl x3), some (.inl x4), some (.inl x5), some (.inl x6), some (.inl x7), none, none] [] S 0 := by
  refine ab_iload' hG 21 _ _ _ _ 7 _ dX0_compareParts_21 rfl ?_
  refine ab_iload_n' hG 23 _ _ _ _ 3 _ dX0_compareParts_23 rfl ?_
  refine ab_icmp_lt' hG 24 _ _ _ _ (229) 253 _ _ dX0_compareParts_24 (by decide) (fun hc => ?_) (fun hc => ?_)
  · have h := h.1 hc
    exact ab_return_' hG 253 _ _ _ dX0_compareParts_253 rfl (by decide) h
  · have h := h.2 hc
    refine ab_iload' hG 27 _ _ _ _ 6 _ dX0_compareParts_27 rfl ?_
    refine ab_istore' hG 29 _ _ _ _ 8 _ dX0_compareParts_29 (Nat.le_of_ble_eq_true rfl) ?_
    exact h
theorem bl_X0_compareParts_31 {Q : ab_Po} {G : ab_Gt} (hG : ab_Cl M_X0_compareParts Q G) (t1 : Nat) (t2 : Nat) (x3 : Int32) (x4 : Int32) (x5 : Int32) (x6 : Int32) (x7 : Int32) (x8 : Int32) (S : ab_S) (h : (x8 < x4 → G 21 [some (.inr (3, 0)), some (.inr (4, t1)), some (.inr (4, t2)), some (.inl x3), some (.inl x4), some (.inl x5), some (.inl x6), some (.inl (x7 + (-1))), none, none] [] S 0) ∧ (¬ x8 < x4 → (x7 = x5 → vp_in x7 25 ∧ vp_in x8 25 ∧ (∀ S1 : ab_S, S1 = ab_su S 18 x7.toNatClampNeg x8.toNatClampNeg (((x5 - x7) + x6) - x8) → G 31 [some (.inr (3, 0)), some (.inr (4, t1)), some (.inr (4, t2)), some (.inl x3), some (.inl x4), some (.inl x5), some (.inl x6), some (.inl x7), some (.inl (x8 + (-1))), none] [] S1 0)) ∧ (¬ x7 = x5 → (x8 = x6 → vp_in x7 25 ∧ vp_in x8 25 ∧ (∀ S2 : ab_S, S2 = ab_su S 18 x7.toNatClampNeg x8.toNatClampNeg (((x5 - x7) + x6) - x8) → G 31 [some (.inr (3, 0)), some (.inr (4, t1)), some (.inr (4, t2)), some (.inl x3), some (.inl x4), some (.inl x5), some (.inl x6), some (.inl x7), some (.inl (x8 + (-1))), none] [] S2 0)) ∧ (¬ x8 = x6 → vp_in x7 24 ∧ ((S 19 0 x7.toNatClampNeg) = x5 → vp_in x8 24 ∧ ((S 19 1 x8.toNatClampNeg) = x6 → vp_in x7 24 ∧ vp_in (S 5 t1 x7.toNatClampNeg) 24 ∧ vp_in x8 24 ∧ vp_in (S 5 t2 x8.toNatClampNeg) 24 ∧ ((S 8 t1 (S 5 t1 x7.toNatClampNeg).toNatClampNeg) = (S 8 t2 (S 5 t2 x8.toNatClampNeg).toNatClampNeg) → vp_in x7 25 ∧ vp_in (x7 + (1 : Int32)) 25 ∧ vp_in (x8 + (1 : Int32)) 25 ∧ Sp_X0_least [(.inr (3, 0)), (.inl x7), (.inl x8), (.inl ((S 18 ((x7 + (1 : Int32)).toNatClampNeg) (x8 + (1 : Int32)).toNatClampNeg) + (0 : Int32)))] S (ab_back Q G 168 [some (.inr (3, 0)), some (.inr (4, t1)), some (.inr (4, t2)), some (.inl x3), some (.inl x4), some (.inl x5), some (.inl x6), some (.inl x7), some (.inl x8), some (.inl (0 : Int32))] [(.inl x8), (.inr (18, x7.toNatClampNeg))] 0)) ∧ (¬ (S 8 t1 (S 5 t1 x7.toNatClampNeg).toNatClampNeg) = (S 8 t2 (S 5 t2 x8.toNatClampNeg).toNatClampNeg) → vp_in x7 25 ∧ vp_in (x7 + (1 : Int32)) 25 ∧ vp_in (x8 + (1 : Int32)) 25 ∧ Sp_X0_least [(.inr (3, 0)), (.inl x7), (.inl x8), (.inl ((S 18 ((x7 + (1 : Int32)).toNatClampNeg) (x8 + (1 : Int32)).toNatClampNeg) + (1 : Int32)))] S (ab_back Q G 168 [some (.inr (3, 0)), some (.inr (4, t1)), some (.inr (4, t2)), some (.inl x3), some (.inl x4), some (.inl x5), some (.inl x6), some (.inl x7), some (.inl x8), some (.inl (1 : Int32))] [(.inl x8), (.inr (18, x7.toNatClampNeg))] 0))) ∧ (¬ (S 19 1 x8.toNatClampNeg) = x6 → vp_in x7 25 ∧ vp_in x7 24 ∧ vp_in (S 19 0 x7.toNatClampNeg) 25 ∧ vp_in x8 24 ∧ vp_in (S 19 1 x8.toNatClampNeg) 25 ∧ vp_in x7 24 ∧ vp_in x8 24 ∧ Sp_X0_least [(.inr (3, 0)), (.inl x7), (.inl x8), (.inl ((S 18 ((S 19 0 x7.toNatClampNeg).toNatClampNeg) (S 19 1 x8.toNatClampNeg).toNatClampNeg) + (S 16 x7.toNatClampNeg x8.toNatClampNeg)))] S (ab_back Q G 240 [some (.inr (3, 0)), some (.inr (4, t1)), some (.inr (4, t2)), some (.inl x3), some (.inl x4), some (.inl x5), some (.inl x6), some (.inl x7), some (.inl x8), none] [(.inl x8), (.inr (18, x7.toNatClampNeg))] 0))) ∧ (¬ (S 19 0 x7.toNatClampNeg) = x5 → vp_in x7 25 ∧ vp_in x7 24 ∧ vp_in (S 19 0 x7.toNatClampNeg) 25 ∧ vp_in x8 24 ∧ vp_in (S 19 1 x8.toNatClampNeg) 25 ∧ vp_in x7 24 ∧ vp_in x8 24 ∧ Sp_X0_least [(.inr (3, 0)), (.inl x7), (.inl x8), (.inl ((S 18 ((S 19 0 x7.toNatClampNeg).toNatClampNeg) (S 19 1 x8.toNatClampNeg).toNatClampNeg) + (S 16 x7.toNatClampNeg x8.toNatClampNeg)))] S (ab_back Q G 240 [some (.inr (3, 0)), some (.inr (4, t1)), some (.inr (4, t2)), some (.inl x3), some (.inl x4), some (.inl x5), some (.inl x6), some (.inl x7), some (.inl x8), none] [(.inl x8), (.inr (18, x7.toNatClampNeg))] 0)))))) : G 31 [some (.inr (3, 0)), some (.inr (4, t1)), some (.inr (4, t2)), some (.inl x3), some (.inl x4), some (.inl x5), some (.inl x6), some (.inl x7), some (.inl x8), none] [] S 0 := by
  refine ab_iload' hG 31 _ _ _ _ 8 _ dX0_compareParts_31 rfl ?_
  refine ab_iload' hG 33 _ _ _ _ 4 _ dX0_compareParts_33 rfl ?_
  refine ab_icmp_lt' hG 35 _ _ _ _ (212) 247 _ _ dX0_compareParts_35 (by decide) (fun hc => ?_) (fun hc => ?_)
  · have h := h.1 hc
    refine ab_iinc' hG 247 _ _ _ _ 7 (-1) _ _ dX0_compareParts_247 rfl rfl ?_
    refine ab_goto' hG 250 _ _ _ _ (-229) 21 dX0_compareParts_250 (by decide) ?_
    refine ab_forget' hG _ _ _ _ _ 8 ?_
    exact h
  · have h := h.2 hc
    refine ab_iload' hG 38 _ _ _ _ 7 _ dX0_compareParts_38 rfl ?_
    refine ab_iload' hG 40 _ _ _ _ 5 _ dX0_compareParts_40 rfl ?_
    refine ab_icmp_eq' hG 42 _ _ _ _ (10) 52 _ _ dX0_compareParts_42 (by decide) (fun hc => ?_) (fun hc => ?_)
    · have h := h.1 hc
      refine ab_aload_n' hG 52 _ _ _ _ 0 _ dX0_compareParts_52 rfl ?_
      refine ab_gR hG 53 _ _ _ _ 16 3 1 0 (17, 0) dX0_compareParts_53 (List.Mem.tail _ (List.Mem.tail _ (List.Mem.head _))) rfl ?_
      refine ab_iload' hG 56 _ _ _ _ 7 _ dX0_compareParts_56 rfl ?_
      refine ab_aaload3' hG 58 _ _ _ _ 17 0 25 _ dX0_compareParts_58 rfl h.1 ?_
      have h := h.2
      refine ab_iload' hG 59 _ _ _ _ 8 _ dX0_compareParts_59 rfl ?_
      refine ab_iload' hG 61 _ _ _ _ 5 _ dX0_compareParts_61 rfl ?_
      refine ab_iload' hG 63 _ _ _ _ 7 _ dX0_compareParts_63 rfl ?_
      refine ab_isub' hG 65 _ _ _ _ _ _ dX0_compareParts_65 ?_
      refine ab_iload' hG 66 _ _ _ _ 6 _ dX0_compareParts_66 rfl ?_
      refine ab_iadd' hG 68 _ _ _ _ _ _ dX0_compareParts_68 ?_
      refine ab_iload' hG 69 _ _ _ _ 8 _ dX0_compareParts_69 rfl ?_
      refine ab_isub' hG 71 _ _ _ _ _ _ dX0_compareParts_71 ?_
      refine ab_iastore' hG 72 _ _ _ _ 18 x7.toNatClampNeg 25 _ _ dX0_compareParts_72 rfl h.1 ?_
      have h := h.2
      have h := h _ rfl
      refine ab_goto' hG 73 _ _ _ _ (168) 241 dX0_compareParts_73 (by decide) ?_
      refine ab_iinc' hG 241 _ _ _ _ 8 (-1) _ _ dX0_compareParts_241 rfl rfl ?_
      refine ab_goto' hG 244 _ _ _ _ (-213) 31 dX0_compareParts_244 (by decide) ?_
      exact h
    · have h := h.2 hc
      refine ab_iload' hG 45 _ _ _ _ 8 _ dX0_compareParts_45 rfl ?_
      refine ab_iload' hG 47 _ _ _ _ 6 _ dX0_compareParts_47 rfl ?_
      refine ab_icmp_ne' hG 49 _ _ _ _ (27) 76 _ _ dX0_compareParts_49 (by decide) (fun hc => ?_) (fun hc => ?_)
      · have h := h.2 hc
        refine ab_aload_n' hG 76 _ _ _ _ 0 _ dX0_compareParts_76 rfl ?_
        refine ab_gR hG 77 _ _ _ _ 19 3 2 0 (19, 0) dX0_compareParts_77 (List.Mem.head _) rfl ?_
        refine ab_iload' hG 80 _ _ _ _ 7 _ dX0_compareParts_80 rfl ?_
        refine ab_iaload' hG 82 _ _ _ _ 19 0 24 _ dX0_compareParts_82 rfl h.1 ?_
        have h := h.2
        refine ab_iload' hG 83 _ _ _ _ 5 _ dX0_compareParts_83 rfl ?_
        refine ab_icmp_ne' hG 85 _ _ _ _ (107) 192 _ _ dX0_compareParts_85 (by decide) (fun hc => ?_) (fun hc => ?_)
        · have h := h.2 hc
          refine ab_aload_n' hG 192 _ _ _ _ 0 _ dX0_compareParts_192 rfl ?_
          refine ab_gR hG 193 _ _ _ _ 16 3 1 0 (17, 0) dX0_compareParts_193 (List.Mem.tail _ (List.Mem.tail _ (List.Mem.head _))) rfl ?_
          refine ab_iload' hG 196 _ _ _ _ 7 _ dX0_compareParts_196 rfl ?_
          refine ab_aaload3' hG 198 _ _ _ _ 17 0 25 _ dX0_compareParts_198 rfl h.1 ?_
          have h := h.2
          refine ab_iload' hG 199 _ _ _ _ 8 _ dX0_compareParts_199 rfl ?_
          refine ab_aload_n' hG 201 _ _ _ _ 0 _ dX0_compareParts_201 rfl ?_
          refine ab_iload' hG 202 _ _ _ _ 7 _ dX0_compareParts_202 rfl ?_
          refine ab_iload' hG 204 _ _ _ _ 8 _ dX0_compareParts_204 rfl ?_
          refine ab_aload_n' hG 206 _ _ _ _ 0 _ dX0_compareParts_206 rfl ?_
          refine ab_gR hG 207 _ _ _ _ 16 3 1 0 (17, 0) dX0_compareParts_207 (List.Mem.tail _ (List.Mem.tail _ (List.Mem.head _))) rfl ?_
          refine ab_aload_n' hG 210 _ _ _ _ 0 _ dX0_compareParts_210 rfl ?_
          refine ab_gR hG 211 _ _ _ _ 19 3 2 0 (19, 0) dX0_compareParts_211 (List.Mem.head _) rfl ?_
          refine ab_iload' hG 214 _ _ _ _ 7 _ dX0_compareParts_214 rfl ?_
          refine ab_iaload' hG 216 _ _ _ _ 19 0 24 _ dX0_compareParts_216 rfl h.1 ?_
          have h := h.2
          refine ab_aaload3' hG 217 _ _ _ _ 17 0 25 _ dX0_compareParts_217 rfl h.1 ?_
          have h := h.2
          refine ab_aload_n' hG 218 _ _ _ _ 0 _ dX0_compareParts_218 rfl ?_
          refine ab_gR hG 219 _ _ _ _ 23 3 3 0 (19, 1) dX0_compareParts_219 (List.Mem.tail _ (List.Mem.head _)) rfl ?_
          refine ab_iload' hG 222 _ _ _ _ 8 _ dX0_compareParts_222 rfl ?_
          refine ab_iaload' hG 224 _ _ _ _ 19 1 24 _ dX0_compareParts_224 rfl h.1 ?_
          have h := h.2
          refine ab_iaload' hG 225 _ _ _ _ 18 ((S 19 0 x7.toNatClampNeg).toNatClampNeg) 25 _ dX0_compareParts_225 rfl h.1 ?_
          have h := h.2
          refine ab_aload_n' hG 226 _ _ _ _ 0 _ dX0_compareParts_226 rfl ?_
          refine ab_gR hG 227 _ _ _ _ 11 3 0 0 (15, 0) dX0_compareParts_227 (List.Mem.tail _ (List.Mem.tail _ (List.Mem.tail _ (List.Mem.tail _ (List.Mem.tail _ (List.Mem.head _)))))) rfl ?_
          refine ab_iload' hG 230 _ _ _ _ 7 _ dX0_compareParts_230 rfl ?_
          refine ab_aaload3' hG 232 _ _ _ _ 15 0 24 _ dX0_compareParts_232 rfl h.1 ?_
          have h := h.2
          refine ab_iload' hG 233 _ _ _ _ 8 _ dX0_compareParts_233 rfl ?_
          refine ab_iaload' hG 235 _ _ _ _ 16 x7.toNatClampNeg 24 _ dX0_compareParts_235 rfl h.1 ?_
          have h := h.2
          refine ab_iadd' hG 236 _ _ _ _ _ _ dX0_compareParts_236 ?_
          exact ab_invv' hG 237 _ [_, _, _] _ _ 0 61 _ 3 1 0 _ (3, _) dX0_compareParts_237 rfl rfl rfl rfl (Nat.le_of_ble_eq_true rfl) (Nat.le_of_ble_eq_true rfl) h
        · have h := h.1 hc
          refine ab_aload_n' hG 88 _ _ _ _ 0 _ dX0_compareParts_88 rfl ?_
          refine ab_gR hG 89 _ _ _ _ 23 3 3 0 (19, 1) dX0_compareParts_89 (List.Mem.tail _ (List.Mem.head _)) rfl ?_
          refine ab_iload' hG 92 _ _ _ _ 8 _ dX0_compareParts_92 rfl ?_
          refine ab_iaload' hG 94 _ _ _ _ 19 1 24 _ dX0_compareParts_94 rfl h.1 ?_
          have h := h.2
          refine ab_iload' hG 95 _ _ _ _ 6 _ dX0_compareParts_95 rfl ?_
          refine ab_icmp_ne' hG 97 _ _ _ _ (95) 192 _ _ dX0_compareParts_97 (by decide) (fun hc => ?_) (fun hc => ?_)
          · have h := h.2 hc
            refine ab_aload_n' hG 192 _ _ _ _ 0 _ dX0_compareParts_192 rfl ?_
            refine ab_gR hG 193 _ _ _ _ 16 3 1 0 (17, 0) dX0_compareParts_193 (List.Mem.tail _ (List.Mem.tail _ (List.Mem.head _))) rfl ?_
            refine ab_iload' hG 196 _ _ _ _ 7 _ dX0_compareParts_196 rfl ?_
            refine ab_aaload3' hG 198 _ _ _ _ 17 0 25 _ dX0_compareParts_198 rfl h.1 ?_
            have h := h.2
            refine ab_iload' hG 199 _ _ _ _ 8 _ dX0_compareParts_199 rfl ?_
            refine ab_aload_n' hG 201 _ _ _ _ 0 _ dX0_compareParts_201 rfl ?_
            refine ab_iload' hG 202 _ _ _ _ 7 _ dX0_compareParts_202 rfl ?_
            refine ab_iload' hG 204 _ _ _ _ 8 _ dX0_compareParts_204 rfl ?_
            refine ab_aload_n' hG 206 _ _ _ _ 0 _ dX0_compareParts_206 rfl ?_
            refine ab_gR hG 207 _ _ _ _ 16 3 1 0 (17, 0) dX0_compareParts_207 (List.Mem.tail _ (List.Mem.tail _ (List.Mem.head _))) rfl ?_
            refine ab_aload_n' hG 210 _ _ _ _ 0 _ dX0_compareParts_210 rfl ?_
            refine ab_gR hG 211 _ _ _ _ 19 3 2 0 (19, 0) dX0_compareParts_211 (List.Mem.head _) rfl ?_
            refine ab_iload' hG 214 _ _ _ _ 7 _ dX0_compareParts_214 rfl ?_
            refine ab_iaload' hG 216 _ _ _ _ 19 0 24 _ dX0_compareParts_216 rfl h.1 ?_
            have h := h.2
            refine ab_aaload3' hG 217 _ _ _ _ 17 0 25 _ dX0_compareParts_217 rfl h.1 ?_
            have h := h.2
            refine ab_aload_n' hG 218 _ _ _ _ 0 _ dX0_compareParts_218 rfl ?_
            refine ab_gR hG 219 _ _ _ _ 23 3 3 0 (19, 1) dX0_compareParts_219 (List.Mem.tail _ (List.Mem.head _)) rfl ?_
            refine ab_iload' hG 222 _ _ _ _ 8 _ dX0_compareParts_222 rfl ?_
            refine ab_iaload' hG 224 _ _ _ _ 19 1 24 _ dX0_compareParts_224 rfl h.1 ?_
            have h := h.2
            refine ab_iaload' hG 225 _ _ _ _ 18 ((S 19 0 x7.toNatClampNeg).toNatClampNeg) 25 _ dX0_compareParts_225 rfl h.1 ?_
            have h := h.2
            refine ab_aload_n' hG 226 _ _ _ _ 0 _ dX0_compareParts_226 rfl ?_
            refine ab_gR hG 227 _ _ _ _ 11 3 0 0 (15, 0) dX0_compareParts_227 (List.Mem.tail _ (List.Mem.tail _ (List.Mem.tail _ (List.Mem.tail _ (List.Mem.tail _ (List.Mem.head _)))))) rfl ?_
            refine ab_iload' hG 230 _ _ _ _ 7 _ dX0_compareParts_230 rfl ?_
            refine ab_aaload3' hG 232 _ _ _ _ 15 0 24 _ dX0_compareParts_232 rfl h.1 ?_
            have h := h.2
            refine ab_iload' hG 233 _ _ _ _ 8 _ dX0_compareParts_233 rfl ?_
            refine ab_iaload' hG 235 _ _ _ _ 16 x7.toNatClampNeg 24 _ dX0_compareParts_235 rfl h.1 ?_
            have h := h.2
            refine ab_iadd' hG 236 _ _ _ _ _ _ dX0_compareParts_236 ?_
            exact ab_invv' hG 237 _ [_, _, _] _ _ 0 61 _ 3 1 0 _ (3, _) dX0_compareParts_237 rfl rfl rfl rfl (Nat.le_of_ble_eq_true rfl) (Nat.le_of_ble_eq_true rfl) h
          · have h := h.1 hc
            refine ab_aload_n' hG 100 _ _ _ _ 1 _ dX0_compareParts_100 rfl ?_
            refine ab_gR hG 101 _ _ _ _ 55 4 3 t1 (8, t1) dX0_compareParts_101 (List.Mem.tail _ (List.Mem.tail _ (List.Mem.tail _ (List.Mem.head _)))) rfl ?_
            refine ab_aload_n' hG 104 _ _ _ _ 1 _ dX0_compareParts_104 rfl ?_
            refine ab_gR hG 105 _ _ _ _ 58 4 0 t1 (5, t1) dX0_compareParts_105 (List.Mem.tail _ (List.Mem.tail _ (List.Mem.tail _ (List.Mem.tail _ (List.Mem.head _))))) rfl ?_
            refine ab_iload' hG 108 _ _ _ _ 7 _ dX0_compareParts_108 rfl ?_
            refine ab_iaload' hG 110 _ _ _ _ 5 t1 24 _ dX0_compareParts_110 rfl h.1 ?_
            have h := h.2
            refine ab_iaload' hG 111 _ _ _ _ 8 t1 24 _ dX0_compareParts_111 rfl h.1 ?_
            have h := h.2
            refine ab_aload_n' hG 112 _ _ _ _ 2 _ dX0_compareParts_112 rfl ?_
            refine ab_gR hG 113 _ _ _ _ 55 4 3 t2 (8, t2) dX0_compareParts_113 (List.Mem.tail _ (List.Mem.tail _ (List.Mem.tail _ (List.Mem.head _)))) rfl ?_
            refine ab_aload_n' hG 116 _ _ _ _ 2 _ dX0_compareParts_116 rfl ?_
            refine ab_gR hG 117 _ _ _ _ 58 4 0 t2 (5, t2) dX0_compareParts_117 (List.Mem.tail _ (List.Mem.tail _ (List.Mem.tail _ (List.Mem.tail _ (List.Mem.head _))))) rfl ?_
            refine ab_iload' hG 120 _ _ _ _ 8 _ dX0_compareParts_120 rfl ?_
            refine ab_iaload' hG 122 _ _ _ _ 5 t2 24 _ dX0_compareParts_122 rfl h.1 ?_
            have h := h.2
            refine ab_iaload' hG 123 _ _ _ _ 8 t2 24 _ dX0_compareParts_123 rfl h.1 ?_
            have h := h.2
            refine ab_icmp_ne' hG 124 _ _ _ _ (7) 131 _ _ dX0_compareParts_124 (by decide) (fun hc => ?_) (fun hc => ?_)
            · have h := h.2 hc
              refine ab_iconst' hG 131 _ _ _ _ 1 1 dX0_compareParts_131 (by decide) ?_
              refine ab_istore' hG 132 _ _ _ _ 9 _ dX0_compareParts_132 (Nat.le_of_ble_eq_true rfl) ?_
              refine ab_aload_n' hG 134 _ _ _ _ 0 _ dX0_compareParts_134 rfl ?_
              refine ab_gR hG 135 _ _ _ _ 16 3 1 0 (17, 0) dX0_compareParts_135 (List.Mem.tail _ (List.Mem.tail _ (List.Mem.head _))) rfl ?_
              refine ab_iload' hG 138 _ _ _ _ 7 _ dX0_compareParts_138 rfl ?_
              refine ab_aaload3' hG 140 _ _ _ _ 17 0 25 _ dX0_compareParts_140 rfl h.1 ?_
              have h := h.2
              refine ab_iload' hG 141 _ _ _ _ 8 _ dX0_compareParts_141 rfl ?_
              refine ab_aload_n' hG 143 _ _ _ _ 0 _ dX0_compareParts_143 rfl ?_
              refine ab_iload' hG 144 _ _ _ _ 7 _ dX0_compareParts_144 rfl ?_
              refine ab_iload' hG 146 _ _ _ _ 8 _ dX0_compareParts_146 rfl ?_
              refine ab_aload_n' hG 148 _ _ _ _ 0 _ dX0_compareParts_148 rfl ?_
              refine ab_gR hG 149 _ _ _ _ 16 3 1 0 (17, 0) dX0_compareParts_149 (List.Mem.tail _ (List.Mem.tail _ (List.Mem.head _))) rfl ?_
              refine ab_iload' hG 152 _ _ _ _ 7 _ dX0_compareParts_152 rfl ?_
              refine ab_iconst' hG 154 _ _ _ _ 1 1 dX0_compareParts_154 (by decide) ?_
              refine ab_iadd' hG 155 _ _ _ _ _ _ dX0_compareParts_155 ?_
              refine ab_aaload3' hG 156 _ _ _ _ 17 0 25 _ dX0_compareParts_156 rfl h.1 ?_
              have h := h.2
              refine ab_iload' hG 157 _ _ _ _ 8 _ dX0_compareParts_157 rfl ?_
              refine ab_iconst' hG 159 _ _ _ _ 1 1 dX0_compareParts_159 (by decide) ?_
              refine ab_iadd' hG 160 _ _ _ _ _ _ dX0_compareParts_160 ?_
              refine ab_iaload' hG 161 _ _ _ _ 18 ((x7 + (1 : Int32)).toNatClampNeg) 25 _ dX0_compareParts_161 rfl h.1 ?_
              have h := h.2
              refine ab_iload' hG 162 _ _ _ _ 9 _ dX0_compareParts_162 rfl ?_
              refine ab_iadd' hG 164 _ _ _ _ _ _ dX0_compareParts_164 ?_
              exact ab_invv' hG 165 _ [_, _, _] _ _ 0 61 _ 3 1 0 _ (3, _) dX0_compareParts_165 rfl rfl rfl rfl (Nat.le_of_ble_eq_true rfl) (Nat.le_of_ble_eq_true rfl) h
            · have h := h.1 hc
              refine ab_iconst' hG 127 _ _ _ _ 0 0 dX0_compareParts_127 (by decide) ?_
              refine ab_goto' hG 128 _ _ _ _ (4) 132 dX0_compareParts_128 (by decide) ?_
              refine ab_istore' hG 132 _ _ _ _ 9 _ dX0_compareParts_132 (Nat.le_of_ble_eq_true rfl) ?_
              refine ab_aload_n' hG 134 _ _ _ _ 0 _ dX0_compareParts_134 rfl ?_
              refine ab_gR hG 135 _ _ _ _ 16 3 1 0 (17, 0) dX0_compareParts_135 (List.Mem.tail _ (List.Mem.tail _ (List.Mem.head _))) rfl ?_
              refine ab_iload' hG 138 _ _ _ _ 7 _ dX0_compareParts_138 rfl ?_
              refine ab_aaload3' hG 140 _ _ _ _ 17 0 25 _ dX0_compareParts_140 rfl h.1 ?_
              have h := h.2
              refine ab_iload' hG 141 _ _ _ _ 8 _ dX0_compareParts_141 rfl ?_
              refine ab_aload_n' hG 143 _ _ _ _ 0 _ dX0_compareParts_143 rfl ?_
              refine ab_iload' hG 144 _ _ _ _ 7 _ dX0_compareParts_144 rfl ?_
              refine ab_iload' hG 146 _ _ _ _ 8 _ dX0_compareParts_146 rfl ?_
              refine ab_aload_n' hG 148 _ _ _ _ 0 _ dX0_compareParts_148 rfl ?_
              refine ab_gR hG 149 _ _ _ _ 16 3 1 0 (17, 0) dX0_compareParts_149 (List.Mem.tail _ (List.Mem.tail _ (List.Mem.head _))) rfl ?_
              refine ab_iload' hG 152 _ _ _ _ 7 _ dX0_compareParts_152 rfl ?_
              refine ab_iconst' hG 154 _ _ _ _ 1 1 dX0_compareParts_154 (by decide) ?_
              refine ab_iadd' hG 155 _ _ _ _ _ _ dX0_compareParts_155 ?_
              refine ab_aaload3' hG 156 _ _ _ _ 17 0 25 _ dX0_compareParts_156 rfl h.1 ?_
              have h := h.2
              refine ab_iload' hG 157 _ _ _ _ 8 _ dX0_compareParts_157 rfl ?_
              refine ab_iconst' hG 159 _ _ _ _ 1 1 dX0_compareParts_159 (by decide) ?_
              refine ab_iadd' hG 160 _ _ _ _ _ _ dX0_compareParts_160 ?_
              refine ab_iaload' hG 161 _ _ _ _ 18 ((x7 + (1 : Int32)).toNatClampNeg) 25 _ dX0_compareParts_161 rfl h.1 ?_
              have h := h.2
              refine ab_iload' hG 162 _ _ _ _ 9 _ dX0_compareParts_162 rfl ?_
              refine ab_iadd' hG 164 _ _ _ _ _ _ dX0_compareParts_164 ?_
              exact ab_invv' hG 165 _ [_, _, _] _ _ 0 61 _ 3 1 0 _ (3, _) dX0_compareParts_165 rfl rfl rfl rfl (Nat.le_of_ble_eq_true rfl) (Nat.le_of_ble_eq_true rfl) h
      · have h := h.1 hc
        refine ab_aload_n' hG 52 _ _ _ _ 0 _ dX0_compareParts_52 rfl ?_
        refine ab_gR hG 53 _ _ _ _ 16 3 1 0 (17, 0) dX0_compareParts_53 (List.Mem.tail _ (List.Mem.tail _ (List.Mem.head _))) rfl ?_
        refine ab_iload' hG 56 _ _ _ _ 7 _ dX0_compareParts_56 rfl ?_
        refine ab_aaload3' hG 58 _ _ _ _ 17 0 25 _ dX0_compareParts_58 rfl h.1 ?_
        have h := h.2
        refine ab_iload' hG 59 _ _ _ _ 8 _ dX0_compareParts_59 rfl ?_
        refine ab_iload' hG 61 _ _ _ _ 5 _ dX0_compareParts_61 rfl ?_
        refine ab_iload' hG 63 _ _ _ _ 7 _ dX0_compareParts_63 rfl ?_
        refine ab_isub' hG 65 _ _ _ _ _ _ dX0_compareParts_65 ?_
        refine ab_iload' hG 66 _ _ _ _ 6 _ dX0_compareParts_66 rfl ?_
        refine ab_iadd' hG 68 _ _ _ _ _ _ dX0_compareParts_68 ?_
        refine ab_iload' hG 69 _ _ _ _ 8 _ dX0_compareParts_69 rfl ?_
        refine ab_isub' hG 71 _ _ _ _ _ _ dX0_compareParts_71 ?_
        refine ab_iastore' hG 72 _ _ _ _ 18 x7.toNatClampNeg 25 _ _ dX0_compareParts_72 rfl h.1 ?_
        have h := h.2
        have h := h _ rfl
        refine ab_goto' hG 73 _ _ _ _ (168) 241 dX0_compareParts_73 (by decide) ?_
        refine ab_iinc' hG 241 _ _ _ _ 8 (-1) _ _ dX0_compareParts_241 rfl rfl ?_
        refine ab_goto' hG 244 _ _ _ _ (-213) 31 dX0_compareParts_244 (by decide) ?_
        exact h
theorem bl_X0_compareParts_168 {Q : ab_Po} {G : ab_Gt} (hG : ab_Cl M_X0_compareParts Q G) (t1 : Nat) (t2 : Nat) (x3 : Int32) (x4 : Int32) (x5 : Int32) (x6 : Int32) (x7 : Int32) (x8 : Int32) (x9 : Int32) (xs0 : Int32) (xs1 : Int32) (ts2 : Nat) (S : ab_S) (h : vp_in xs1 25 ∧ (∀ S1 : ab_S, S1 = ab_su S 18 ts2 xs1.toNatClampNeg xs0 → vp_in x7 24 ∧ vp_in x7 25 ∧ vp_in x8 25 ∧ vp_in x8 24 ∧ (∀ S2 : ab_S, S2 = ab_su S1 16 x7.toNatClampNeg x8.toNatClampNeg (S1 18 x7.toNatClampNeg x8.toNatClampNeg) → G 31 [some (.inr (3, 0)), some (.inr (4, t1)), some (.inr (4, t2)), some (.inl x3), some (.inl x4), some (.inl x5), some (.inl x6), some (.inl x7), some (.inl (x8 + (-1))), none] [] S2 0))) : G 168 [some (.inr (3, 0)), some (.inr (4, t1)), some (.inr (4, t2)), some (.inl x3), some (.inl x4), some (.inl x5), some (.inl x6), some (.inl x7), some (.inl x8), some (.inl x9)] [(.inl xs0), (.inl xs1), (.inr (18, ts2))] S 0 := by
  refine ab_iastore' hG 168 _ _ _ _ 18 ts2 25 _ _ dX0_compareParts_168 rfl h.1 ?_
  have h := h.2
  have h := h _ rfl
  refine ab_aload_n' hG 169 _ _ _ _ 0 _ dX0_compareParts_169 rfl ?_
  refine ab_gR hG 170 _ _ _ _ 11 3 0 0 (15, 0) dX0_compareParts_170 (List.Mem.tail _ (List.Mem.tail _ (List.Mem.tail _ (List.Mem.tail _ (List.Mem.tail _ (List.Mem.head _)))))) rfl ?_
  refine ab_iload' hG 173 _ _ _ _ 7 _ dX0_compareParts_173 rfl ?_
  refine ab_aaload3' hG 175 _ _ _ _ 15 0 24 _ dX0_compareParts_175 rfl h.1 ?_
  have h := h.2
  refine ab_iload' hG 176 _ _ _ _ 8 _ dX0_compareParts_176 rfl ?_
  refine ab_aload_n' hG 178 _ _ _ _ 0 _ dX0_compareParts_178 rfl ?_
  refine ab_gR hG 179 _ _ _ _ 16 3 1 0 (17, 0) dX0_compareParts_179 (List.Mem.tail _ (List.Mem.tail _ (List.Mem.head _))) rfl ?_
  refine ab_iload' hG 182 _ _ _ _ 7 _ dX0_compareParts_182 rfl ?_
  refine ab_aaload3' hG 184 _ _ _ _ 17 0 25 _ dX0_compareParts_184 rfl h.1 ?_
  have h := h.2
  refine ab_iload' hG 185 _ _ _ _ 8 _ dX0_compareParts_185 rfl ?_
  refine ab_iaload' hG 187 _ _ _ _ 18 x7.toNatClampNeg 25 _ dX0_compareParts_187 rfl h.1 ?_
  have h := h.2
  refine ab_iastore' hG 188 _ _ _ _ 16 x7.toNatClampNeg 24 _ _ dX0_compareParts_188 rfl h.1 ?_
  have h := h.2
  have h := h _ rfl
  refine ab_goto' hG 189 _ _ _ _ (52) 241 dX0_compareParts_189 (by decide) ?_
  refine ab_iinc' hG 241 _ _ _ _ 8 (-1) _ _ dX0_compareParts_241 rfl rfl ?_
  refine ab_goto' hG 244 _ _ _ _ (-213) 31 dX0_compareParts_244 (by decide) ?_
  refine ab_forget' hG _ _ _ _ _ 9 ?_
  exact h
theorem bl_X0_compareParts_240 {Q : ab_Po} {G : ab_Gt} (hG : ab_Cl M_X0_compareParts Q G) (t1 : Nat) (t2 : Nat) (x3 : Int32) (x4 : Int32) (x5 : Int32) (x6 : Int32) (x7 : Int32) (x8 : Int32) (xs0 : Int32) (xs1 : Int32) (ts2 : Nat) (S : ab_S) (h : vp_in xs1 25 ∧ (∀ S1 : ab_S, S1 = ab_su S 18 ts2 xs1.toNatClampNeg xs0 → G 31 [some (.inr (3, 0)), some (.inr (4, t1)), some (.inr (4, t2)), some (.inl x3), some (.inl x4), some (.inl x5), some (.inl x6), some (.inl x7), some (.inl (x8 + (-1))), none] [] S1 0)) : G 240 [some (.inr (3, 0)), some (.inr (4, t1)), some (.inr (4, t2)), some (.inl x3), some (.inl x4), some (.inl x5), some (.inl x6), some (.inl x7), some (.inl x8), none] [(.inl xs0), (.inl xs1), (.inr (18, ts2))] S 0 := by
  refine ab_iastore' hG 240 _ _ _ _ 18 ts2 25 _ _ dX0_compareParts_240 rfl h.1 ?_
  have h := h.2
  have h := h _ rfl
  refine ab_iinc' hG 241 _ _ _ _ 8 (-1) _ _ dX0_compareParts_241 rfl rfl ?_
  refine ab_goto' hG 244 _ _ _ _ (-213) 31 dX0_compareParts_244 (by decide) ?_
  exact h
theorem bl_X0_compareWithAll_0 {Q : ab_Po} {G : ab_Gt} (hG : ab_Cl M_X0_compareWithAll Q G) (t1 : Nat) (t2 : Nat) (x3 : Int32) (S : ab_S) (h : G 8 [some (.inr (3, 0)), some (.inr (4, t1)), some (.inr (4, t2)), some (.inl x3), some (.inl ((S 4 t2 4) - (1 : Int32)))] [] S 0) : G 0 [some (.inr (3, 0)), some (.inr (4, t1)), some (.inr (4, t2)), some (.inl x3), none] [] S 0 := by
  refine ab_aload_n' hG 0 _ _ _ _ 2 _ dX0_compareWithAll_0 rfl ?_
  refine ab_gI hG 1 _ _ _ _ 30 4 4 t2 dX0_compareWithAll_1 (List.Mem.head _) rfl ?_
  refine ab_iconst' hG 4 _ _ _ _ 1 1 dX0_compareWithAll_4 (by decide) ?_
  refine ab_isub' hG 5 _ _ _ _ _ _ dX0_compareWithAll_5 ?_
  refine ab_istore' hG 6 _ _ _ _ 4 _ dX0_compareWithAll_6 (Nat.le_of_ble_eq_true rfl) ?_
  exact h
theorem bl_X0_compareWithAll_8 {Q : ab_Po} {G : ab_Gt} (hG : ab_Cl M_X0_compareWithAll Q G) (t1 : Nat) (t2 : Nat) (x3 : Int32) (x4 : Int32) (S : ab_S) (h : (x4 < 0 → Q (.inl none) S) ∧ (¬ x4 < 0 → Sp_X0_isWidest [(.inr (4, t2)), (.inr (19, 1)), (.inl x4)] S (ab_back Q G 23 [some (.inr (3, 0)), some (.inr (4, t1)), some (.inr (4, t2)), some (.inl x3), some (.inl x4)] [] 0))) : G 8 [some (.inr (3, 0)), some (.inr (4, t1)), some (.inr (4, t2)), some (.inl x3), some (.inl x4)] [] S 0 := by
  refine ab_iload' hG 8 _ _ _ _ 4 _ dX0_compareWithAll_8 rfl ?_
  refine ab_if_lt' hG 10 _ _ _ _ (31) 41 _ dX0_compareWithAll_10 (by decide) (fun hc => ?_) (fun hc => ?_)
  · have h := h.1 hc
    exact ab_return_' hG 41 _ _ _ dX0_compareWithAll_41 rfl (by decide) h
  · have h := h.2 hc
    refine ab_aload_n' hG 13 _ _ _ _ 2 _ dX0_compareWithAll_13 rfl ?_
    refine ab_aload_n' hG 14 _ _ _ _ 0 _ dX0_compareWithAll_14 rfl ?_
    refine ab_gR hG 15 _ _ _ _ 23 3 3 0 (19, 1) dX0_compareWithAll_15 (List.Mem.tail _ (List.Mem.head _)) rfl ?_
    refine ab_iload' hG 18 _ _ _ _ 4 _ dX0_compareWithAll_18 rfl ?_
    exact ab_invs' hG 20 _ [_, _, _] _ _ 0 36 _ 3 1 0 _ dX0_compareWithAll_20 rfl rfl (Nat.le_of_ble_eq_true rfl) (Nat.le_of_ble_eq_true rfl) h
theorem bl_X0_compareWithAll_23 {Q : ab_Po} {G : ab_Gt} (hG : ab_Cl M_X0_compareWithAll Q G) (t1 : Nat) (t2 : Nat) (x3 : Int32) (x4 : Int32) (xs0 : Int32) (S : ab_S) (h : (xs0 = 0 → G 8 [some (.inr (3, 0)), some (.inr (4, t1)), some (.inr (4, t2)), some (.inl x3), some (.inl (x4 + (-1)))] [] S 0) ∧ (¬ xs0 = 0 → Sp_X0_compareParts [(.inr (3, 0)), (.inr (4, t1)), (.inr (4, t2)), (.inl x3), (.inl x4)] S (ab_back Q G 35 [some (.inr (3, 0)), some (.inr (4, t1)), some (.inr (4, t2)), some (.inl x3), some (.inl x4)] [] 0))) : G 23 [some (.inr (3, 0)), some (.inr (4, t1)), some (.inr (4, t2)), some (.inl x3), some (.inl x4)] [(.inl xs0)] S 0 := by
  refine ab_if_eq' hG 23 _ _ _ _ (12) 35 _ dX0_compareWithAll_23 (by decide) (fun hc => ?_) (fun hc => ?_)
  · have h := h.1 hc
    refine ab_iinc' hG 35 _ _ _ _ 4 (-1) _ _ dX0_compareWithAll_35 rfl rfl ?_
    refine ab_goto' hG 38 _ _ _ _ (-30) 8 dX0_compareWithAll_38 (by decide) ?_
    exact h
  · have h := h.2 hc
    refine ab_aload_n' hG 26 _ _ _ _ 0 _ dX0_compareWithAll_26 rfl ?_
    refine ab_aload_n' hG 27 _ _ _ _ 1 _ dX0_compareWithAll_27 rfl ?_
    refine ab_aload_n' hG 28 _ _ _ _ 2 _ dX0_compareWithAll_28 rfl ?_
    refine ab_iload_n' hG 29 _ _ _ _ 3 _ dX0_compareWithAll_29 rfl ?_
    refine ab_iload' hG 30 _ _ _ _ 4 _ dX0_compareWithAll_30 rfl ?_
    exact ab_invv' hG 32 _ [_, _, _, _] _ _ 0 44 _ 4 0 0 _ (3, _) dX0_compareWithAll_32 rfl rfl rfl rfl (Nat.le_of_ble_eq_true rfl) (Nat.le_of_ble_eq_true rfl) h
theorem bl_X0_compareWithAll_35 {Q : ab_Po} {G : ab_Gt} (hG : ab_Cl M_X0_compareWithAll Q G) (t1 : Nat) (t2 : Nat) (x3 : Int32) (x4 : Int32) (S : ab_S) (h : G 8 [some (.inr (3, 0)), some (.inr (4, t1)), some (.inr (4, t2)), some (.inl x3), some (.inl (x4 + (-1)))] [] S 0) : G 35 [some (.inr (3, 0)), some (.inr (4, t1)), some (.inr (4, t2)), some (.inl x3), some (.inl x4)] [] S 0 := by
  refine ab_iinc' hG 35 _ _ _ _ 4 (-1) _ _ dX0_compareWithAll_35 rfl rfl ?_
  refine ab_goto' hG 38 _ _ _ _ (-30) 8 dX0_compareWithAll_38 (by decide) ?_
  exact h
theorem bl_X0_between_0 {Q : ab_Po} {G : ab_Gt} (hG : ab_Cl M_X0_between Q G) (t1 : Nat) (t2 : Nat) (S : ab_S) (h : Sp_X0_noteEnds [(.inr (4, t1)), (.inr (19, 0))] S (ab_back Q G 8 [some (.inr (3, 0)), some (.inr (4, t1)), some (.inr (4, t2)), none] [] 0)) : G 0 [some (.inr (3, 0)), some (.inr (4, t1)), some (.inr (4, t2)), none] [] S 0 := by
  refine ab_aload_n' hG 0 _ _ _ _ 1 _ dX0_between_0 rfl ?_
  refine ab_aload_n' hG 1 _ _ _ _ 0 _ dX0_between_1 rfl ?_
  refine ab_gR hG 2 _ _ _ _ 19 3 2 0 (19, 0) dX0_between_2 (List.Mem.head _) rfl ?_
  exact ab_invs' hG 5 _ [_, _] _ _ 0 26 _ 2 0 0 _ dX0_between_5 rfl rfl (Nat.le_of_ble_eq_true rfl) (Nat.le_of_ble_eq_true rfl) h
theorem bl_X0_between_8 {Q : ab_Po} {G : ab_Gt} (hG : ab_Cl M_X0_between Q G) (t1 : Nat) (t2 : Nat) (S : ab_S) (h : Sp_X0_noteEnds [(.inr (4, t2)), (.inr (19, 1))] S (ab_back Q G 16 [some (.inr (3, 0)), some (.inr (4, t1)), some (.inr (4, t2)), none] [] 0)) : G 8 [some (.inr (3, 0)), some (.inr (4, t1)), some (.inr (4, t2)), none] [] S 0 := by
  refine ab_aload_n' hG 8 _ _ _ _ 2 _ dX0_between_8 rfl ?_
  refine ab_aload_n' hG 9 _ _ _ _ 0 _ dX0_between_9 rfl ?_
  refine ab_gR hG 10 _ _ _ _ 23 3 3 0 (19, 1) dX0_between_10 (List.Mem.tail _ (List.Mem.head _)) rfl ?_
  exact ab_invs' hG 13 _ [_, _] _ _ 0 26 _ 2 0 0 _ dX0_between_13 rfl rfl (Nat.le_of_ble_eq_true rfl) (Nat.le_of_ble_eq_true rfl) h
theorem bl_X0_between_16 {Q : ab_Po} {G : ab_Gt} (hG : ab_Cl M_X0_between Q G) (t1 : Nat) (t2 : Nat) (S : ab_S) (h : G 23 [some (.inr (3, 0)), some (.inr (4, t1)), some (.inr (4, t2)), some (.inl ((S 4 t1 4) - (1 : Int32)))] [] S 0) : G 16 [some (.inr (3, 0)), some (.inr (4, t1)), some (.inr (4, t2)), none] [] S 0 := by
  refine ab_aload_n' hG 16 _ _ _ _ 1 _ dX0_between_16 rfl ?_
  refine ab_gI hG 17 _ _ _ _ 30 4 4 t1 dX0_between_17 (List.Mem.tail _ (List.Mem.tail _ (List.Mem.head _))) rfl ?_
  refine ab_iconst' hG 20 _ _ _ _ 1 1 dX0_between_20 (by decide) ?_
  refine ab_isub' hG 21 _ _ _ _ _ _ dX0_between_21 ?_
  refine ab_istore_n' hG 22 _ _ _ _ 3 _ dX0_between_22 (Nat.le_of_ble_eq_true rfl) ?_
  exact h
theorem bl_X0_between_23 {Q : ab_Po} {G : ab_Gt} (hG : ab_Cl M_X0_between Q G) (t1 : Nat) (t2 : Nat) (x3 : Int32) (S : ab_S) (h : (x3 < 0 → vp_in (0 : Int32) 24 ∧ vp_in (0 : Int32) 24 ∧ Q (.inl (some (S 16 ((0 : Int32).toNatClampNeg) (0 : Int32).toNatClampNeg))) S) ∧ (¬ x3 < 0 → Sp_X0_isWidest [(.inr (4, t1)), (.inr (19, 0)), (.inl x3)] S (ab_back Q G 36 [some (.inr (3, 0)), some (.inr (4, t1)), some (.inr (4, t2)), some (.inl x3)] [] 0))) : G 23 [some (.inr (3, 0)), some (.inr (4, t1)), some (.inr (4, t2)), some (.inl x3)] [] S 0 := by
  refine ab_iload_n' hG 23 _ _ _ _ 3 _ dX0_between_23 rfl ?_
  refine ab_if_lt' hG 24 _ _ _ _ (28) 52 _ dX0_between_24 (by decide) (fun hc => ?_) (fun hc => ?_)
  · have h := h.1 hc
    refine ab_aload_n' hG 52 _ _ _ _ 0 _ dX0_between_52 rfl ?_
    refine ab_gR hG 53 _ _ _ _ 11 3 0 0 (15, 0) dX0_between_53 (List.Mem.tail _ (List.Mem.tail _ (List.Mem.tail _ (List.Mem.head _)))) rfl ?_
    refine ab_iconst' hG 56 _ _ _ _ 0 0 dX0_between_56 (by decide) ?_
    refine ab_aaload3' hG 57 _ _ _ _ 15 0 24 _ dX0_between_57 rfl h.1 ?_
    have h := h.2
    refine ab_iconst' hG 58 _ _ _ _ 0 0 dX0_between_58 (by decide) ?_
    refine ab_iaload' hG 59 _ _ _ _ 16 ((0 : Int32).toNatClampNeg) 24 _ dX0_between_59 rfl h.1 ?_
    have h := h.2
    exact ab_ireturn' hG 60 _ _ _ _ dX0_between_60 (Or.inl rfl) (by decide) h
  · have h := h.2 hc
    refine ab_aload_n' hG 27 _ _ _ _ 1 _ dX0_between_27 rfl ?_
    refine ab_aload_n' hG 28 _ _ _ _ 0 _ dX0_between_28 rfl ?_
    refine ab_gR hG 29 _ _ _ _ 19 3 2 0 (19, 0) dX0_between_29 (List.Mem.head _) rfl ?_
    refine ab_iload_n' hG 32 _ _ _ _ 3 _ dX0_between_32 rfl ?_
    exact ab_invs' hG 33 _ [_, _, _] _ _ 0 36 _ 3 1 0 _ dX0_between_33 rfl rfl (Nat.le_of_ble_eq_true rfl) (Nat.le_of_ble_eq_true rfl) h
theorem bl_X0_between_36 {Q : ab_Po} {G : ab_Gt} (hG : ab_Cl M_X0_between Q G) (t1 : Nat) (t2 : Nat) (x3 : Int32) (xs0 : Int32) (S : ab_S) (h : (xs0 = 0 → G 23 [some (.inr (3, 0)), some (.inr (4, t1)), some (.inr (4, t2)), some (.inl (x3 + (-1)))] [] S 0) ∧ (¬ xs0 = 0 → Sp_X0_compareWithAll [(.inr (3, 0)), (.inr (4, t1)), (.inr (4, t2)), (.inl x3)] S (ab_back Q G 46 [some (.inr (3, 0)), some (.inr (4, t1)), some (.inr (4, t2)), some (.inl x3)] [] 0))) : G 36 [some (.inr (3, 0)), some (.inr (4, t1)), some (.inr (4, t2)), some (.inl x3)] [(.inl xs0)] S 0 := by
  refine ab_if_eq' hG 36 _ _ _ _ (10) 46 _ dX0_between_36 (by decide) (fun hc => ?_) (fun hc => ?_)
  · have h := h.1 hc
    refine ab_iinc' hG 46 _ _ _ _ 3 (-1) _ _ dX0_between_46 rfl rfl ?_
    refine ab_goto' hG 49 _ _ _ _ (-26) 23 dX0_between_49 (by decide) ?_
    exact h
  · have h := h.2 hc
    refine ab_aload_n' hG 39 _ _ _ _ 0 _ dX0_between_39 rfl ?_
    refine ab_aload_n' hG 40 _ _ _ _ 1 _ dX0_between_40 rfl ?_
    refine ab_aload_n' hG 41 _ _ _ _ 2 _ dX0_between_41 rfl ?_
    refine ab_iload_n' hG 42 _ _ _ _ 3 _ dX0_between_42 rfl ?_
    exact ab_invv' hG 43 _ [_, _, _] _ _ 0 40 _ 3 0 0 _ (3, _) dX0_between_43 rfl rfl rfl rfl (Nat.le_of_ble_eq_true rfl) (Nat.le_of_ble_eq_true rfl) h
theorem bl_X0_between_46 {Q : ab_Po} {G : ab_Gt} (hG : ab_Cl M_X0_between Q G) (t1 : Nat) (t2 : Nat) (x3 : Int32) (S : ab_S) (h : G 23 [some (.inr (3, 0)), some (.inr (4, t1)), some (.inr (4, t2)), some (.inl (x3 + (-1)))] [] S 0) : G 46 [some (.inr (3, 0)), some (.inr (4, t1)), some (.inr (4, t2)), some (.inl x3)] [] S 0 := by
  refine ab_iinc' hG 46 _ _ _ _ 3 (-1) _ _ dX0_between_46 rfl rfl ?_
  refine ab_goto' hG 49 _ _ _ _ (-26) 23 dX0_between_49 (by decide) ?_
  exact h
theorem bl_X1_reachOf_0 {Q : ab_Po} {G : ab_Gt} (hG : ab_Cl M_X1_reachOf Q G) (x1 : Int32) (S : ab_S) (h : (x1 = (-1 : Int32) → Q (.inl (some (0 : Int32))) S) ∧ (¬ x1 = (-1 : Int32) → vp_in x1 12 ∧ Q (.inl (some (S 13 0 x1.toNatClampNeg))) S)) : G 0 [some (.inr (1, 0)), some (.inl x1)] [] S 0 := by
  refine ab_iload_n' hG 0 _ _ _ _ 1 _ dX1_reachOf_0 rfl ?_
  refine ab_iconst' hG 1 _ _ _ _ (-1) (-1) dX1_reachOf_1 (by decide) ?_
  refine ab_icmp_ne' hG 2 _ _ _ _ (7) 9 _ _ dX1_reachOf_2 (by decide) (fun hc => ?_) (fun hc => ?_)
  · have h := h.2 hc
    refine ab_aload_n' hG 9 _ _ _ _ 0 _ dX1_reachOf_9 rfl ?_
    refine ab_gR hG 10 _ _ _ _ 24 1 4 0 (13, 0) dX1_reachOf_10 (List.Mem.head _) rfl ?_
    refine ab_iload_n' hG 13 _ _ _ _ 1 _ dX1_reachOf_13 rfl ?_
    refine ab_iaload' hG 14 _ _ _ _ 13 0 12 _ dX1_reachOf_14 rfl h.1 ?_
    have h := h.2
    exact ab_ireturn' hG 15 _ _ _ _ dX1_reachOf_15 (Or.inl rfl) (by decide) h
  · have h := h.1 hc
    refine ab_iconst' hG 5 _ _ _ _ 0 0 dX1_reachOf_5 (by decide) ?_
    refine ab_goto' hG 6 _ _ _ _ (9) 15 dX1_reachOf_6 (by decide) ?_
    exact ab_ireturn' hG 15 _ _ _ _ dX1_reachOf_15 (Or.inl rfl) (by decide) h
theorem bl_X1_record_0 {Q : ab_Po} {G : ab_Gt} (hG : ab_Cl M_X1_record Q G) (t1 : Nat) (x2 : Int32) (x3 : Int32) (S : ab_S) (h : (∀ S1 : ab_S, S1 = ab_su S 1 0 3 ((S 1 0 3) + (1 : Int32)) → vp_in (S 1 0 3) 12 ∧ Sp_X4_copyFrom [(.inr (4, (S 1 0 3).toNatClampNeg + 1)), (.inr (4, t1))] S1 (ab_back Q G 27 [some (.inr (1, 0)), some (.inr (4, t1)), some (.inl x2), some (.inl x3), some (.inl (S 1 0 3))] [] 0))) : G 0 [some (.inr (1, 0)), some (.inr (4, t1)), some (.inl x2), some (.inl x3), none] [] S 0 := by
  refine ab_aload_n' hG 0 _ _ _ _ 0 _ dX1_record_0 rfl ?_
  refine ab_gI hG 1 _ _ _ _ 28 1 3 0 dX1_record_1 (List.Mem.head _) rfl ?_
  refine ab_istore' hG 4 _ _ _ _ 4 _ dX1_record_4 (Nat.le_of_ble_eq_true rfl) ?_
  refine ab_aload_n' hG 6 _ _ _ _ 0 _ dX1_record_6 rfl ?_
  refine ab_dup' hG 7 _ _ _ _ _ dX1_record_7 ?_
  refine ab_gI hG 8 _ _ _ _ 28 1 3 0 dX1_record_8 (List.Mem.head _) rfl ?_
  refine ab_iconst' hG 11 _ _ _ _ 1 1 dX1_record_11 (by decide) ?_
  refine ab_iadd' hG 12 _ _ _ _ _ _ dX1_record_12 ?_
  refine ab_putfield' hG 13 _ _ _ _ 28 1 3 0 _ dX1_record_13 (List.Mem.head _) ?_
  have h := h _ rfl
  refine ab_aload_n' hG 16 _ _ _ _ 0 _ dX1_record_16 rfl ?_
  refine ab_gR hG 17 _ _ _ _ 11 1 0 0 (10, 0) dX1_record_17 (List.Mem.tail _ (List.Mem.head _)) rfl ?_
  refine ab_iload' hG 20 _ _ _ _ 4 _ dX1_record_20 rfl ?_
  refine ab_aaload2' hG 22 _ _ _ _ 10 0 12 _ dX1_record_22 rfl h.1 ?_
  have h := h.2
  refine ab_aload_n' hG 23 _ _ _ _ 1 _ dX1_record_23 rfl ?_
  exact ab_invv' hG 24 _ [_] _ _ 0 32 _ 1 0 0 _ (4, _) dX1_record_24 rfl rfl rfl rfl (Nat.le_of_ble_eq_true rfl) (Nat.le_of_ble_eq_true rfl) h
theorem bl_X1_record_27 {Q : ab_Po} {G : ab_Gt} (hG : ab_Cl M_X1_record Q G) (t1 : Nat) (x2 : Int32) (x3 : Int32) (x4 : Int32) (S : ab_S) (h : vp_in x4 12 ∧ (∀ S1 : ab_S, S1 = ab_su S 11 0 x4.toNatClampNeg x2 → vp_in x4 12 ∧ (∀ S2 : ab_S, S2 = ab_su S1 12 0 x4.toNatClampNeg x3 → Sp_X1_reachOf [(.inr (1, 0)), (.inl x2)] S2 (ab_back Q G 58 [some (.inr (1, 0)), some (.inr (4, t1)), some (.inl x2), some (.inl x3), some (.inl x4)] [(.inl ((1 : Int32) <<< (x4 &&& 31))), (.inl x4), (.inr (13, 0))] 0)))) : G 27 [some (.inr (1, 0)), some (.inr (4, t1)), some (.inl x2), some (.inl x3), some (.inl x4)] [] S 0 := by
  refine ab_aload_n' hG 27 _ _ _ _ 0 _ dX1_record_27 rfl ?_
  refine ab_gR hG 28 _ _ _ _ 17 1 1 0 (11, 0) dX1_record_28 (List.Mem.tail _ (List.Mem.tail _ (List.Mem.head _))) rfl ?_
  refine ab_iload' hG 31 _ _ _ _ 4 _ dX1_record_31 rfl ?_
  refine ab_iload_n' hG 33 _ _ _ _ 2 _ dX1_record_33 rfl ?_
  refine ab_iastore' hG 34 _ _ _ _ 11 0 12 _ _ dX1_record_34 rfl h.1 ?_
  have h := h.2
  have h := h _ rfl
  refine ab_aload_n' hG 35 _ _ _ _ 0 _ dX1_record_35 rfl ?_
  refine ab_gR hG 36 _ _ _ _ 21 1 2 0 (12, 0) dX1_record_36 (List.Mem.tail _ (List.Mem.tail _ (List.Mem.tail _ (List.Mem.head _)))) rfl ?_
  refine ab_iload' hG 39 _ _ _ _ 4 _ dX1_record_39 rfl ?_
  refine ab_iload_n' hG 41 _ _ _ _ 3 _ dX1_record_41 rfl ?_
  refine ab_iastore' hG 42 _ _ _ _ 12 0 12 _ _ dX1_record_42 rfl h.1 ?_
  have h := h.2
  have h := h _ rfl
  refine ab_aload_n' hG 43 _ _ _ _ 0 _ dX1_record_43 rfl ?_
  refine ab_gR hG 44 _ _ _ _ 24 1 4 0 (13, 0) dX1_record_44 (List.Mem.tail _ (List.Mem.tail _ (List.Mem.tail _ (List.Mem.tail _ (List.Mem.head _))))) rfl ?_
  refine ab_iload' hG 47 _ _ _ _ 4 _ dX1_record_47 rfl ?_
  refine ab_iconst' hG 49 _ _ _ _ 1 1 dX1_record_49 (by decide) ?_
  refine ab_iload' hG 50 _ _ _ _ 4 _ dX1_record_50 rfl ?_
  refine ab_ishl' hG 52 _ _ _ _ _ _ dX1_record_52 ?_
  refine ab_aload_n' hG 53 _ _ _ _ 0 _ dX1_record_53 rfl ?_
  refine ab_iload_n' hG 54 _ _ _ _ 2 _ dX1_record_54 rfl ?_
  exact ab_invv' hG 55 _ [_] _ _ 0 36 _ 1 1 0 _ (1, _) dX1_record_55 rfl rfl rfl rfl (Nat.le_of_ble_eq_true rfl) (Nat.le_of_ble_eq_true rfl) h
theorem bl_X1_record_58 {Q : ab_Po} {G : ab_Gt} (hG : ab_Cl M_X1_record Q G) (t1 : Nat) (x2 : Int32) (x3 : Int32) (x4 : Int32) (xs0 : Int32) (xs1 : Int32) (xs2 : Int32) (S : ab_S) (h : Sp_X1_reachOf [(.inr (1, 0)), (.inl x3)] S (ab_back Q G 64 [some (.inr (1, 0)), some (.inr (4, t1)), some (.inl x2), some (.inl x3), some (.inl x4)] [(.inl (xs1 ||| xs0)), (.inl xs2), (.inr (13, 0))] 0)) : G 58 [some (.inr (1, 0)), some (.inr (4, t1)), some (.inl x2), some (.inl x3), some (.inl x4)] [(.inl xs0), (.inl xs1), (.inl xs2), (.inr (13, 0))] S 0 := by
  refine ab_ior' hG 58 _ _ _ _ _ _ dX1_record_58 ?_
  refine ab_aload_n' hG 59 _ _ _ _ 0 _ dX1_record_59 rfl ?_
  refine ab_iload_n' hG 60 _ _ _ _ 3 _ dX1_record_60 rfl ?_
  exact ab_invv' hG 61 _ [_] _ _ 0 36 _ 1 1 0 _ (1, _) dX1_record_61 rfl rfl rfl rfl (Nat.le_of_ble_eq_true rfl) (Nat.le_of_ble_eq_true rfl) h
theorem bl_X1_record_64 {Q : ab_Po} {G : ab_Gt} (hG : ab_Cl M_X1_record Q G) (t1 : Nat) (x2 : Int32) (x3 : Int32) (x4 : Int32) (xs0 : Int32) (xs1 : Int32) (xs2 : Int32) (S : ab_S) (h : vp_in xs2 12 ∧ (∀ S1 : ab_S, S1 = ab_su S 13 0 xs2.toNatClampNeg (xs1 ||| xs0) → Q (.inl (some x4)) S1)) : G 64 [some (.inr (1, 0)), some (.inr (4, t1)), some (.inl x2), some (.inl x3), some (.inl x4)] [(.inl xs0), (.inl xs1), (.inl xs2), (.inr (13, 0))] S 0 := by
  refine ab_ior' hG 64 _ _ _ _ _ _ dX1_record_64 ?_
  refine ab_iastore' hG 65 _ _ _ _ 13 0 12 _ _ dX1_record_65 rfl h.1 ?_
  have h := h.2
  have h := h _ rfl
  refine ab_iload' hG 66 _ _ _ _ 4 _ dX1_record_66 rfl ?_
  exact ab_ireturn' hG 68 _ _ _ _ dX1_record_68 (Or.inl rfl) (by decide) h
theorem bl_X1_isReachedFromAnother_0 {Q : ab_Po} {G : ab_Gt} (hG : ab_Cl M_X1_isReachedFromAnother Q G) (x1 : Int32) (x2 : Int32) (S : ab_S) (h : G 2 [some (.inr (1, 0)), some (.inl x1), some (.inl x2), some (.inl (0 : Int32))] [] S 0) : G 0 [some (.inr (1, 0)), some (.inl x1), some (.inl x2), none] [] S 0 := by
  refine ab_iconst' hG 0 _ _ _ _ 0 0 dX1_isReachedFromAnother_0 (by decide) ?_
  refine ab_istore_n' hG 1 _ _ _ _ 3 _ dX1_isReachedFromAnother_1 (Nat.le_of_ble_eq_true rfl) ?_
  exact h
theorem bl_X1_isReachedFromAnother_2 {Q : ab_Po} {G : ab_Gt} (hG : ab_Cl M_X1_isReachedFromAnother Q G) (x1 : Int32) (x2 : Int32) (x3 : Int32) (S : ab_S) (h : ((S 1 0 3) ≤ x3 → Q (.inl (some (0 : Int32))) S) ∧ (¬ (S 1 0 3) ≤ x3 → (x3 = x1 → G 2 [some (.inr (1, 0)), some (.inl x1), some (.inl x2), some (.inl (x3 + 1))] [] S 0) ∧ (¬ x3 = x1 → Sp_X5_isIn [(.inl x2), (.inl x3)] S (ab_back (fun _ _ => False) G 20 [some (.inr (1, 0)), some (.inl x1), some (.inl x2), some (.inl x3)] [] 0)))) : G 2 [some (.inr (1, 0)), some (.inl x1), some (.inl x2), some (.inl x3)] [] S 0 := by
  refine ab_iload_n' hG 2 _ _ _ _ 3 _ dX1_isReachedFromAnother_2 rfl ?_
  refine ab_aload_n' hG 3 _ _ _ _ 0 _ dX1_isReachedFromAnother_3 rfl ?_
  refine ab_gI hG 4 _ _ _ _ 28 1 3 0 dX1_isReachedFromAnother_4 (List.Mem.head _) rfl ?_
  refine ab_icmp_ge' hG 7 _ _ _ _ (37) 44 _ _ dX1_isReachedFromAnother_7 (by decide) (fun hc => ?_) (fun hc => ?_)
  · have h := h.1 hc
    refine ab_iconst' hG 44 _ _ _ _ 0 0 dX1_isReachedFromAnother_44 (by decide) ?_
    exact ab_ireturn' hG 45 _ _ _ _ dX1_isReachedFromAnother_45 (Or.inr ⟨rfl, Or.inl rfl⟩) (by decide) h
  · have h := h.2 hc
    refine ab_iload_n' hG 10 _ _ _ _ 3 _ dX1_isReachedFromAnother_10 rfl ?_
    refine ab_iload_n' hG 11 _ _ _ _ 1 _ dX1_isReachedFromAnother_11 rfl ?_
    refine ab_icmp_eq' hG 12 _ _ _ _ (26) 38 _ _ dX1_isReachedFromAnother_12 (by decide) (fun hc => ?_) (fun hc => ?_)
    · have h := h.1 hc
      refine ab_iinc' hG 38 _ _ _ _ 3 1 _ _ dX1_isReachedFromAnother_38 rfl rfl ?_
      refine ab_goto' hG 41 _ _ _ _ (-39) 2 dX1_isReachedFromAnother_41 (by decide) ?_
      exact h
    · have h := h.2 hc
      refine ab_iload_n' hG 15 _ _ _ _ 2 _ dX1_isReachedFromAnother_15 rfl ?_
      refine ab_iload_n' hG 16 _ _ _ _ 3 _ dX1_isReachedFromAnother_16 rfl ?_
      exact ab_invn' hG 17 _ [_, _] _ _ 0 40 _ 2 1 0 _ dX1_isReachedFromAnother_17 rfl rfl (Nat.le_of_ble_eq_true rfl) (Nat.le_of_ble_eq_true rfl) h
theorem bl_X1_isReachedFromAnother_20 {Q : ab_Po} {G : ab_Gt} (hG : ab_Cl M_X1_isReachedFromAnother Q G) (x1 : Int32) (x2 : Int32) (x3 : Int32) (xs0 : Int32) (S : ab_S) (h : (xs0 = 0 → G 2 [some (.inr (1, 0)), some (.inl x1), some (.inl x2), some (.inl (x3 + 1))] [] S 0) ∧ (¬ xs0 = 0 → vp_in x3 12 ∧ Sp_X5_isIn [(.inl (S 13 0 x3.toNatClampNeg)), (.inl x1)] S (ab_back (fun _ _ => False) G 33 [some (.inr (1, 0)), some (.inl x1), some (.inl x2), some (.inl x3)] [] 0))) : G 20 [some (.inr (1, 0)), some (.inl x1), some (.inl x2), some (.inl x3)] [(.inl xs0)] S 0 := by
  refine ab_if_eq' hG 20 _ _ _ _ (18) 38 _ dX1_isReachedFromAnother_20 (by decide) (fun hc => ?_) (fun hc => ?_)
  · have h := h.1 hc
    refine ab_iinc' hG 38 _ _ _ _ 3 1 _ _ dX1_isReachedFromAnother_38 rfl rfl ?_
    refine ab_goto' hG 41 _ _ _ _ (-39) 2 dX1_isReachedFromAnother_41 (by decide) ?_
    exact h
  · have h := h.2 hc
    refine ab_aload_n' hG 23 _ _ _ _ 0 _ dX1_isReachedFromAnother_23 rfl ?_
    refine ab_gR hG 24 _ _ _ _ 24 1 4 0 (13, 0) dX1_isReachedFromAnother_24 (List.Mem.tail _ (List.Mem.head _)) rfl ?_
    refine ab_iload_n' hG 27 _ _ _ _ 3 _ dX1_isReachedFromAnother_27 rfl ?_
    refine ab_iaload' hG 28 _ _ _ _ 13 0 12 _ dX1_isReachedFromAnother_28 rfl h.1 ?_
    have h := h.2
    refine ab_iload_n' hG 29 _ _ _ _ 1 _ dX1_isReachedFromAnother_29 rfl ?_
    exact ab_invn' hG 30 _ [_, _] _ _ 0 40 _ 2 1 0 _ dX1_isReachedFromAnother_30 rfl rfl (Nat.le_of_ble_eq_true rfl) (Nat.le_of_ble_eq_true rfl) h
theorem bl_X1_isReachedFromAnother_33 {Q : ab_Po} {G : ab_Gt} (hG : ab_Cl M_X1_isReachedFromAnother Q G) (x1 : Int32) (x2 : Int32) (x3 : Int32) (xs0 : Int32) (S : ab_S) (h : (xs0 = 0 → G 2 [some (.inr (1, 0)), some (.inl x1), some (.inl x2), some (.inl (x3 + 1))] [] S 0) ∧ (¬ xs0 = 0 → Q (.inl (some (1 : Int32))) S)) : G 33 [some (.inr (1, 0)), some (.inl x1), some (.inl x2), some (.inl x3)] [(.inl xs0)] S 0 := by
  refine ab_if_eq' hG 33 _ _ _ _ (5) 38 _ dX1_isReachedFromAnother_33 (by decide) (fun hc => ?_) (fun hc => ?_)
  · have h := h.1 hc
    refine ab_iinc' hG 38 _ _ _ _ 3 1 _ _ dX1_isReachedFromAnother_38 rfl rfl ?_
    refine ab_goto' hG 41 _ _ _ _ (-39) 2 dX1_isReachedFromAnother_41 (by decide) ?_
    exact h
  · have h := h.2 hc
    refine ab_iconst' hG 36 _ _ _ _ 1 1 dX1_isReachedFromAnother_36 (by decide) ?_
    exact ab_ireturn' hG 37 _ _ _ _ dX1_isReachedFromAnother_37 (Or.inr ⟨rfl, Or.inr rfl⟩) (by decide) h
theorem bl_X1_baseOf_0 {Q : ab_Po} {G : ab_Gt} (hG : ab_Cl M_X1_baseOf Q G) (x1 : Int32) (x2 : Int32) (S : ab_S) (h : vp_in x1 12 ∧ vp_in x2 12 ∧ G 17 [some (.inr (1, 0)), some (.inl x1), some (.inl x2), some (.inl ((S 13 0 x1.toNatClampNeg) &&& (S 13 0 x2.toNatClampNeg))), some (.inl (0 : Int32))] [] S 0) : G 0 [some (.inr (1, 0)), some (.inl x1), some (.inl x2), none, none] [] S 0 := by
  refine ab_aload_n' hG 0 _ _ _ _ 0 _ dX1_baseOf_0 rfl ?_
  refine ab_gR hG 1 _ _ _ _ 24 1 4 0 (13, 0) dX1_baseOf_1 (List.Mem.head _) rfl ?_
  refine ab_iload_n' hG 4 _ _ _ _ 1 _ dX1_baseOf_4 rfl ?_
  refine ab_iaload' hG 5 _ _ _ _ 13 0 12 _ dX1_baseOf_5 rfl h.1 ?_
  have h := h.2
  refine ab_aload_n' hG 6 _ _ _ _ 0 _ dX1_baseOf_6 rfl ?_
  refine ab_gR hG 7 _ _ _ _ 24 1 4 0 (13, 0) dX1_baseOf_7 (List.Mem.head _) rfl ?_
  refine ab_iload_n' hG 10 _ _ _ _ 2 _ dX1_baseOf_10 rfl ?_
  refine ab_iaload' hG 11 _ _ _ _ 13 0 12 _ dX1_baseOf_11 rfl h.1 ?_
  have h := h.2
  refine ab_iand' hG 12 _ _ _ _ _ _ dX1_baseOf_12 ?_
  refine ab_istore_n' hG 13 _ _ _ _ 3 _ dX1_baseOf_13 (Nat.le_of_ble_eq_true rfl) ?_
  refine ab_iconst' hG 14 _ _ _ _ 0 0 dX1_baseOf_14 (by decide) ?_
  refine ab_istore' hG 15 _ _ _ _ 4 _ dX1_baseOf_15 (Nat.le_of_ble_eq_true rfl) ?_
  exact h
theorem bl_X1_baseOf_17 {Q : ab_Po} {G : ab_Gt} (hG : ab_Cl M_X1_baseOf Q G) (x1 : Int32) (x2 : Int32) (x3 : Int32) (x4 : Int32) (S : ab_S) (h : ((S 1 0 3) ≤ x4 → Q (.inl (some (0 : Int32))) S) ∧ (¬ (S 1 0 3) ≤ x4 → Sp_X5_isIn [(.inl x3), (.inl x4)] S (ab_back (fun _ _ => False) G 32 [some (.inr (1, 0)), some (.inl x1), some (.inl x2), some (.inl x3), some (.inl x4)] [] 0))) : G 17 [some (.inr (1, 0)), some (.inl x1), some (.inl x2), some (.inl x3), some (.inl x4)] [] S 0 := by
  refine ab_iload' hG 17 _ _ _ _ 4 _ dX1_baseOf_17 rfl ?_
  refine ab_aload_n' hG 19 _ _ _ _ 0 _ dX1_baseOf_19 rfl ?_
  refine ab_gI hG 20 _ _ _ _ 28 1 3 0 dX1_baseOf_20 (List.Mem.tail _ (List.Mem.head _)) rfl ?_
  refine ab_icmp_ge' hG 23 _ _ _ _ (31) 54 _ _ dX1_baseOf_23 (by decide) (fun hc => ?_) (fun hc => ?_)
  · have h := h.1 hc
    refine ab_iconst' hG 54 _ _ _ _ 0 0 dX1_baseOf_54 (by decide) ?_
    exact ab_ireturn' hG 55 _ _ _ _ dX1_baseOf_55 (Or.inl rfl) (by decide) h
  · have h := h.2 hc
    refine ab_iload_n' hG 26 _ _ _ _ 3 _ dX1_baseOf_26 rfl ?_
    refine ab_iload' hG 27 _ _ _ _ 4 _ dX1_baseOf_27 rfl ?_
    exact ab_invn' hG 29 _ [_, _] _ _ 0 40 _ 2 1 0 _ dX1_baseOf_29 rfl rfl (Nat.le_of_ble_eq_true rfl) (Nat.le_of_ble_eq_true rfl) h
theorem bl_X1_baseOf_32 {Q : ab_Po} {G : ab_Gt} (hG : ab_Cl M_X1_baseOf Q G) (x1 : Int32) (x2 : Int32) (x3 : Int32) (x4 : Int32) (xs0 : Int32) (S : ab_S) (h : (xs0 = 0 → G 17 [some (.inr (1, 0)), some (.inl x1), some (.inl x2), some (.inl x3), some (.inl (x4 + 1))] [] S 0) ∧ (¬ xs0 = 0 → Sp_X1_isReachedFromAnother [(.inr (1, 0)), (.inl x4), (.inl x3)] S (ab_back Q G 42 [some (.inr (1, 0)), some (.inl x1), some (.inl x2), some (.inl x3), some (.inl x4)] [] 0))) : G 32 [some (.inr (1, 0)), some (.inl x1), some (.inl x2), some (.inl x3), some (.inl x4)] [(.inl xs0)] S 0 := by
  refine ab_if_eq' hG 32 _ _ _ _ (16) 48 _ dX1_baseOf_32 (by decide) (fun hc => ?_) (fun hc => ?_)
  · have h := h.1 hc
    refine ab_iinc' hG 48 _ _ _ _ 4 1 _ _ dX1_baseOf_48 rfl rfl ?_
    refine ab_goto' hG 51 _ _ _ _ (-34) 17 dX1_baseOf_51 (by decide) ?_
    exact h
  · have h := h.2 hc
    refine ab_aload_n' hG 35 _ _ _ _ 0 _ dX1_baseOf_35 rfl ?_
    refine ab_iload' hG 36 _ _ _ _ 4 _ dX1_baseOf_36 rfl ?_
    refine ab_iload_n' hG 38 _ _ _ _ 3 _ dX1_baseOf_38 rfl ?_
    exact ab_invv' hG 39 _ [_, _] _ _ 0 44 _ 2 1 0 _ (1, _) dX1_baseOf_39 rfl rfl rfl rfl (Nat.le_of_ble_eq_true rfl) (Nat.le_of_ble_eq_true rfl) h
theorem bl_X1_baseOf_42 {Q : ab_Po} {G : ab_Gt} (hG : ab_Cl M_X1_baseOf Q G) (x1 : Int32) (x2 : Int32) (x3 : Int32) (x4 : Int32) (xs0 : Int32) (S : ab_S) (h : (xs0 = 0 → Q (.inl (some x4)) S) ∧ (¬ xs0 = 0 → G 17 [some (.inr (1, 0)), some (.inl x1), some (.inl x2), some (.inl x3), some (.inl (x4 + 1))] [] S 0)) : G 42 [some (.inr (1, 0)), some (.inl x1), some (.inl x2), some (.inl x3), some (.inl x4)] [(.inl xs0)] S 0 := by
  refine ab_if_ne' hG 42 _ _ _ _ (6) 48 _ dX1_baseOf_42 (by decide) (fun hc => ?_) (fun hc => ?_)
  · have h := h.2 hc
    refine ab_iinc' hG 48 _ _ _ _ 4 1 _ _ dX1_baseOf_48 rfl rfl ?_
    refine ab_goto' hG 51 _ _ _ _ (-34) 17 dX1_baseOf_51 (by decide) ?_
    exact h
  · have h := h.1 hc
    refine ab_iload' hG 45 _ _ _ _ 4 _ dX1_baseOf_45 rfl ?_
    exact ab_ireturn' hG 47 _ _ _ _ dX1_baseOf_47 (Or.inl rfl) (by decide) h
theorem bl_X2_name_0 {Q : ab_Po} {G : ab_Gt} (hG : ab_Cl M_X2_name Q G) (x1 : Int32) (x2 : Int32) (S : ab_S) (h : vp_in (S 2 0 2) 24 ∧ (∀ S1 : ab_S, S1 = ab_su S 14 0 (S 2 0 2).toNatClampNeg (x1 + ((32 : Int32) * x2)) → (∀ S2 : ab_S, S2 = ab_su S1 2 0 2 ((S1 2 0 2) + (1 : Int32)) → Q (.inl none) S2))) : G 0 [some (.inr (2, 0)), some (.inl x1), some (.inl x2)] [] S 0 := by
  refine ab_aload_n' hG 0 _ _ _ _ 0 _ dX2_name_0 rfl ?_
  refine ab_gR hG 1 _ _ _ _ 18 2 1 0 (14, 0) dX2_name_1 (List.Mem.head _) rfl ?_
  refine ab_aload_n' hG 4 _ _ _ _ 0 _ dX2_name_4 rfl ?_
  refine ab_gI hG 5 _ _ _ _ 22 2 2 0 dX2_name_5 (List.Mem.tail _ (List.Mem.head _)) rfl ?_
  refine ab_iload_n' hG 8 _ _ _ _ 1 _ dX2_name_8 rfl ?_
  refine ab_bipush' hG 9 _ _ _ _ 32 32 dX2_name_9 (by decide) ?_
  refine ab_iload_n' hG 11 _ _ _ _ 2 _ dX2_name_11 rfl ?_
  refine ab_imul' hG 12 _ _ _ _ _ _ dX2_name_12 ?_
  refine ab_iadd' hG 13 _ _ _ _ _ _ dX2_name_13 ?_
  refine ab_iastore' hG 14 _ _ _ _ 14 0 24 _ _ dX2_name_14 rfl h.1 ?_
  have h := h.2
  have h := h _ rfl
  refine ab_aload_n' hG 15 _ _ _ _ 0 _ dX2_name_15 rfl ?_
  refine ab_dup' hG 16 _ _ _ _ _ dX2_name_16 ?_
  refine ab_gI hG 17 _ _ _ _ 22 2 2 0 dX2_name_17 (List.Mem.tail _ (List.Mem.head _)) rfl ?_
  refine ab_iconst' hG 20 _ _ _ _ 1 1 dX2_name_20 (by decide) ?_
  refine ab_iadd' hG 21 _ _ _ _ _ _ dX2_name_21 ?_
  refine ab_putfield' hG 22 _ _ _ _ 22 2 2 0 _ dX2_name_22 (List.Mem.head _) ?_
  have h := h _ rfl
  exact ab_return_' hG 25 _ _ _ dX2_name_25 rfl (by decide) h
theorem bl_X2_agreed_0 {Q : ab_Po} {G : ab_Gt} (hG : ab_Cl M_X2_agreed Q G) (x0 : Int32) (x1 : Int32) (x2 : Int32) (S : ab_S) (h : (x0 = x1 → Q (.inl (some x0)) S) ∧ (¬ x0 = x1 → (x1 = (-2 : Int32) → Q (.inl (some x0)) S) ∧ (¬ x1 = (-2 : Int32) → (x0 = (-2 : Int32) → Q (.inl (some x1)) S) ∧ (¬ x0 = (-2 : Int32) → (x0 = x2 → Q (.inl (some x1)) S) ∧ (¬ x0 = x2 → (x1 = x2 → Q (.inl (some x0)) S) ∧ (¬ x1 = x2 → Q (.inl (some (-3 : Int32))) S)))))) : G 0 [some (.inl x0), some (.inl x1), some (.inl x2)] [] S 0 := by
  refine ab_iload_n' hG 0 _ _ _ _ 0 _ dX2_agreed_0 rfl ?_
  refine ab_iload_n' hG 1 _ _ _ _ 1 _ dX2_agreed_1 rfl ?_
  refine ab_icmp_eq' hG 2 _ _ _ _ (9) 11 _ _ dX2_agreed_2 (by decide) (fun hc => ?_) (fun hc => ?_)
  · have h := h.1 hc
    refine ab_iload_n' hG 11 _ _ _ _ 0 _ dX2_agreed_11 rfl ?_
    exact ab_ireturn' hG 12 _ _ _ _ dX2_agreed_12 (Or.inl rfl) (by decide) h
  · have h := h.2 hc
    refine ab_iload_n' hG 5 _ _ _ _ 1 _ dX2_agreed_5 rfl ?_
    refine ab_bipush' hG 6 _ _ _ _ (-2) (-2) dX2_agreed_6 (by decide) ?_
    refine ab_icmp_ne' hG 8 _ _ _ _ (5) 13 _ _ dX2_agreed_8 (by decide) (fun hc => ?_) (fun hc => ?_)
    · have h := h.2 hc
      refine ab_iload_n' hG 13 _ _ _ _ 0 _ dX2_agreed_13 rfl ?_
      refine ab_bipush' hG 14 _ _ _ _ (-2) (-2) dX2_agreed_14 (by decide) ?_
      refine ab_icmp_eq' hG 16 _ _ _ _ (8) 24 _ _ dX2_agreed_16 (by decide) (fun hc => ?_) (fun hc => ?_)
      · have h := h.1 hc
        refine ab_iload_n' hG 24 _ _ _ _ 1 _ dX2_agreed_24 rfl ?_
        exact ab_ireturn' hG 25 _ _ _ _ dX2_agreed_25 (Or.inl rfl) (by decide) h
      · have h := h.2 hc
        refine ab_iload_n' hG 19 _ _ _ _ 0 _ dX2_agreed_19 rfl ?_
        refine ab_iload_n' hG 20 _ _ _ _ 2 _ dX2_agreed_20 rfl ?_
        refine ab_icmp_ne' hG 21 _ _ _ _ (5) 26 _ _ dX2_agreed_21 (by decide) (fun hc => ?_) (fun hc => ?_)
        · have h := h.2 hc
          refine ab_iload_n' hG 26 _ _ _ _ 1 _ dX2_agreed_26 rfl ?_
          refine ab_iload_n' hG 27 _ _ _ _ 2 _ dX2_agreed_27 rfl ?_
          refine ab_icmp_ne' hG 28 _ _ _ _ (7) 35 _ _ dX2_agreed_28 (by decide) (fun hc => ?_) (fun hc => ?_)
          · have h := h.2 hc
            refine ab_bipush' hG 35 _ _ _ _ (-3) (-3) dX2_agreed_35 (by decide) ?_
            exact ab_ireturn' hG 37 _ _ _ _ dX2_agreed_37 (Or.inl rfl) (by decide) h
          · have h := h.1 hc
            refine ab_iload_n' hG 31 _ _ _ _ 0 _ dX2_agreed_31 rfl ?_
            refine ab_goto' hG 32 _ _ _ _ (5) 37 dX2_agreed_32 (by decide) ?_
            exact ab_ireturn' hG 37 _ _ _ _ dX2_agreed_37 (Or.inl rfl) (by decide) h
        · have h := h.1 hc
          refine ab_iload_n' hG 24 _ _ _ _ 1 _ dX2_agreed_24 rfl ?_
          exact ab_ireturn' hG 25 _ _ _ _ dX2_agreed_25 (Or.inl rfl) (by decide) h
    · have h := h.1 hc
      refine ab_iload_n' hG 11 _ _ _ _ 0 _ dX2_agreed_11 rfl ?_
      exact ab_ireturn' hG 12 _ _ _ _ dX2_agreed_12 (Or.inl rfl) (by decide) h
theorem bl_X2_settle_0 {Q : ab_Po} {G : ab_Gt} (hG : ab_Cl M_X2_settle Q G) (x1 : Int32) (t2 : Nat) (t3 : Nat) (t4 : Nat) (S : ab_S) (h : Sp_X4_holds [(.inr (4, t2)), (.inl x1)] S (ab_back Q G 5 [some (.inr (2, 0)), some (.inl x1), some (.inr (4, t2)), some (.inr (4, t3)), some (.inr (4, t4)), none, none, none] [] 0)) : G 0 [some (.inr (2, 0)), some (.inl x1), some (.inr (4, t2)), some (.inr (4, t3)), some (.inr (4, t4)), none, none, none] [] S 0 := by
  refine ab_aload_n' hG 0 _ _ _ _ 2 _ dX2_settle_0 rfl ?_
  refine ab_iload_n' hG 1 _ _ _ _ 1 _ dX2_settle_1 rfl ?_
  exact ab_invv' hG 2 _ [_] _ _ 0 29 _ 1 1 0 _ (4, _) dX2_settle_2 rfl rfl rfl rfl (Nat.le_of_ble_eq_true rfl) (Nat.le_of_ble_eq_true rfl) h
theorem bl_X2_settle_5 {Q : ab_Po} {G : ab_Gt} (hG : ab_Cl M_X2_settle Q G) (x1 : Int32) (t2 : Nat) (t3 : Nat) (t4 : Nat) (xs0 : Int32) (S : ab_S) (h : (xs0 = 0 → ((0 : Int32) = 0 → Sp_X4_holds [(.inr (4, t4)), (.inl x1)] S (ab_back Q G 34 [some (.inr (2, 0)), some (.inl x1), some (.inr (4, t2)), some (.inr (4, t3)), some (.inr (4, t4)), some (.inl (0 : Int32)), none, none] [] 0)) ∧ (¬ (0 : Int32) = 0 → vp_in x1 24 ∧ vp_in x1 24 ∧ vp_in x1 24 ∧ Sp_X2_agreed [(.inl (S 8 t2 x1.toNatClampNeg)), (.inl (S 8 t3 x1.toNatClampNeg)), (.inl (S 8 t4 x1.toNatClampNeg))] S (ab_back Q G 92 [some (.inr (2, 0)), some (.inl x1), some (.inr (4, t2)), some (.inr (4, t3)), some (.inr (4, t4)), some (.inl (0 : Int32)), none, none] [] 0))) ∧ (¬ xs0 = 0 → Sp_X4_holds [(.inr (4, t3)), (.inl x1)] S (ab_back Q G 13 [some (.inr (2, 0)), some (.inl x1), some (.inr (4, t2)), some (.inr (4, t3)), some (.inr (4, t4)), none, none, none] [] 0))) : G 5 [some (.inr (2, 0)), some (.inl x1), some (.inr (4, t2)), some (.inr (4, t3)), some (.inr (4, t4)), none, none, none] [(.inl xs0)] S 0 := by
  refine ab_if_eq' hG 5 _ _ _ _ (15) 20 _ dX2_settle_5 (by decide) (fun hc => ?_) (fun hc => ?_)
  · have h := h.1 hc
    refine ab_iconst' hG 20 _ _ _ _ 0 0 dX2_settle_20 (by decide) ?_
    refine ab_istore' hG 21 _ _ _ _ 5 _ dX2_settle_21 (Nat.le_of_ble_eq_true rfl) ?_
    refine ab_iload' hG 23 _ _ _ _ 5 _ dX2_settle_23 rfl ?_
    refine ab_if_ne' hG 25 _ _ _ _ (45) 70 _ dX2_settle_25 (by decide) (fun hc => ?_) (fun hc => ?_)
    · have h := h.2 hc
      refine ab_aload_n' hG 70 _ _ _ _ 2 _ dX2_settle_70 rfl ?_
      refine ab_gR hG 71 _ _ _ _ 55 4 3 t2 (8, t2) dX2_settle_71 (List.Mem.head _) rfl ?_
      refine ab_iload_n' hG 74 _ _ _ _ 1 _ dX2_settle_74 rfl ?_
      refine ab_iaload' hG 75 _ _ _ _ 8 t2 24 _ dX2_settle_75 rfl h.1 ?_
      have h := h.2
      refine ab_aload_n' hG 76 _ _ _ _ 3 _ dX2_settle_76 rfl ?_
      refine ab_gR hG 77 _ _ _ _ 55 4 3 t3 (8, t3) dX2_settle_77 (List.Mem.head _) rfl ?_
      refine ab_iload_n' hG 80 _ _ _ _ 1 _ dX2_settle_80 rfl ?_
      refine ab_iaload' hG 81 _ _ _ _ 8 t3 24 _ dX2_settle_81 rfl h.1 ?_
      have h := h.2
      refine ab_aload' hG 82 _ _ _ _ 4 _ dX2_settle_82 rfl ?_
      refine ab_gR hG 84 _ _ _ _ 55 4 3 t4 (8, t4) dX2_settle_84 (List.Mem.head _) rfl ?_
      refine ab_iload_n' hG 87 _ _ _ _ 1 _ dX2_settle_87 rfl ?_
      refine ab_iaload' hG 88 _ _ _ _ 8 t4 24 _ dX2_settle_88 rfl h.1 ?_
      have h := h.2
      exact ab_invs' hG 89 _ [_, _, _] _ _ 0 58 _ 3 1 0 _ dX2_settle_89 rfl rfl (Nat.le_of_ble_eq_true rfl) (Nat.le_of_ble_eq_true rfl) h
    · have h := h.1 hc
      refine ab_aload' hG 28 _ _ _ _ 4 _ dX2_settle_28 rfl ?_
      refine ab_iload_n' hG 30 _ _ _ _ 1 _ dX2_settle_30 rfl ?_
      exact ab_invv' hG 31 _ [_] _ _ 0 29 _ 1 1 0 _ (4, _) dX2_settle_31 rfl rfl rfl rfl (Nat.le_of_ble_eq_true rfl) (Nat.le_of_ble_eq_true rfl) h
  · have h := h.2 hc
    refine ab_aload_n' hG 8 _ _ _ _ 3 _ dX2_settle_8 rfl ?_
    refine ab_iload_n' hG 9 _ _ _ _ 1 _ dX2_settle_9 rfl ?_
    exact ab_invv' hG 10 _ [_] _ _ 0 29 _ 1 1 0 _ (4, _) dX2_settle_10 rfl rfl rfl rfl (Nat.le_of_ble_eq_true rfl) (Nat.le_of_ble_eq_true rfl) h
theorem bl_X2_settle_13 {Q : ab_Po} {G : ab_Gt} (hG : ab_Cl M_X2_settle Q G) (x1 : Int32) (t2 : Nat) (t3 : Nat) (t4 : Nat) (xs0 : Int32) (S : ab_S) (h : (xs0 = 0 → ((0 : Int32) = 0 → Sp_X4_holds [(.inr (4, t4)), (.inl x1)] S (ab_back Q G 34 [some (.inr (2, 0)), some (.inl x1), some (.inr (4, t2)), some (.inr (4, t3)), some (.inr (4, t4)), some (.inl (0 : Int32)), none, none] [] 0)) ∧ (¬ (0 : Int32) = 0 → vp_in x1 24 ∧ vp_in x1 24 ∧ vp_in x1 24 ∧ Sp_X2_agreed [(.inl (S 8 t2 x1.toNatClampNeg)), (.inl (S 8 t3 x1.toNatClampNeg)), (.inl (S 8 t4 x1.toNatClampNeg))] S (ab_back Q G 92 [some (.inr (2, 0)), some (.inl x1), some (.inr (4, t2)), some (.inr (4, t3)), some (.inr (4, t4)), some (.inl (0 : Int32)), none, none] [] 0))) ∧ (¬ xs0 = 0 → ((1 : Int32) = 0 → Sp_X4_holds [(.inr (4, t4)), (.inl x1)] S (ab_back Q G 34 [some (.inr (2, 0)), some (.inl x1), some (.inr (4, t2)), some (.inr (4, t3)), some (.inr (4, t4)), some (.inl (1 : Int32)), none, none] [] 0)) ∧ (¬ (1 : Int32) = 0 → vp_in x1 24 ∧ vp_in x1 24 ∧ vp_in x1 24 ∧ Sp_X2_agreed [(.inl (S 8 t2 x1.toNatClampNeg)), (.inl (S 8 t3 x1.toNatClampNeg)), (.inl (S 8 t4 x1.toNatClampNeg))] S (ab_back Q G 92 [some (.inr (2, 0)), some (.inl x1), some (.inr (4, t2)), some (.inr (4, t3)), some (.inr (4, t4)), some (.inl (1 : Int32)), none, none] [] 0)))) : G 13 [some (.inr (2, 0)), some (.inl x1), some (.inr (4, t2)), some (.inr (4, t3)), some (.inr (4, t4)), none, none, none] [(.inl xs0)] S 0 := by
  refine ab_if_eq' hG 13 _ _ _ _ (7) 20 _ dX2_settle_13 (by decide) (fun hc => ?_) (fun hc => ?_)
  · have h := h.1 hc
    refine ab_iconst' hG 20 _ _ _ _ 0 0 dX2_settle_20 (by decide) ?_
    refine ab_istore' hG 21 _ _ _ _ 5 _ dX2_settle_21 (Nat.le_of_ble_eq_true rfl) ?_
    refine ab_iload' hG 23 _ _ _ _ 5 _ dX2_settle_23 rfl ?_
    refine ab_if_ne' hG 25 _ _ _ _ (45) 70 _ dX2_settle_25 (by decide) (fun hc => ?_) (fun hc => ?_)
    · have h := h.2 hc
      refine ab_aload_n' hG 70 _ _ _ _ 2 _ dX2_settle_70 rfl ?_
      refine ab_gR hG 71 _ _ _ _ 55 4 3 t2 (8, t2) dX2_settle_71 (List.Mem.head _) rfl ?_
      refine ab_iload_n' hG 74 _ _ _ _ 1 _ dX2_settle_74 rfl ?_
      refine ab_iaload' hG 75 _ _ _ _ 8 t2 24 _ dX2_settle_75 rfl h.1 ?_
      have h := h.2
      refine ab_aload_n' hG 76 _ _ _ _ 3 _ dX2_settle_76 rfl ?_
      refine ab_gR hG 77 _ _ _ _ 55 4 3 t3 (8, t3) dX2_settle_77 (List.Mem.head _) rfl ?_
      refine ab_iload_n' hG 80 _ _ _ _ 1 _ dX2_settle_80 rfl ?_
      refine ab_iaload' hG 81 _ _ _ _ 8 t3 24 _ dX2_settle_81 rfl h.1 ?_
      have h := h.2
      refine ab_aload' hG 82 _ _ _ _ 4 _ dX2_settle_82 rfl ?_
      refine ab_gR hG 84 _ _ _ _ 55 4 3 t4 (8, t4) dX2_settle_84 (List.Mem.head _) rfl ?_
      refine ab_iload_n' hG 87 _ _ _ _ 1 _ dX2_settle_87 rfl ?_
      refine ab_iaload' hG 88 _ _ _ _ 8 t4 24 _ dX2_settle_88 rfl h.1 ?_
      have h := h.2
      exact ab_invs' hG 89 _ [_, _, _] _ _ 0 58 _ 3 1 0 _ dX2_settle_89 rfl rfl (Nat.le_of_ble_eq_true rfl) (Nat.le_of_ble_eq_true rfl) h
    · have h := h.1 hc
      refine ab_aload' hG 28 _ _ _ _ 4 _ dX2_settle_28 rfl ?_
      refine ab_iload_n' hG 30 _ _ _ _ 1 _ dX2_settle_30 rfl ?_
      exact ab_invv' hG 31 _ [_] _ _ 0 29 _ 1 1 0 _ (4, _) dX2_settle_31 rfl rfl rfl rfl (Nat.le_of_ble_eq_true rfl) (Nat.le_of_ble_eq_true rfl) h
  · have h := h.2 hc
    refine ab_iconst' hG 16 _ _ _ _ 1 1 dX2_settle_16 (by decide) ?_
    refine ab_goto' hG 17 _ _ _ _ (4) 21 dX2_settle_17 (by decide) ?_
    refine ab_istore' hG 21 _ _ _ _ 5 _ dX2_settle_21 (Nat.le_of_ble_eq_true rfl) ?_
    refine ab_iload' hG 23 _ _ _ _ 5 _ dX2_settle_23 rfl ?_
    refine ab_if_ne' hG 25 _ _ _ _ (45) 70 _ dX2_settle_25 (by decide) (fun hc => ?_) (fun hc => ?_)
    · have h := h.2 hc
      refine ab_aload_n' hG 70 _ _ _ _ 2 _ dX2_settle_70 rfl ?_
      refine ab_gR hG 71 _ _ _ _ 55 4 3 t2 (8, t2) dX2_settle_71 (List.Mem.head _) rfl ?_
      refine ab_iload_n' hG 74 _ _ _ _ 1 _ dX2_settle_74 rfl ?_
      refine ab_iaload' hG 75 _ _ _ _ 8 t2 24 _ dX2_settle_75 rfl h.1 ?_
      have h := h.2
      refine ab_aload_n' hG 76 _ _ _ _ 3 _ dX2_settle_76 rfl ?_
      refine ab_gR hG 77 _ _ _ _ 55 4 3 t3 (8, t3) dX2_settle_77 (List.Mem.head _) rfl ?_
      refine ab_iload_n' hG 80 _ _ _ _ 1 _ dX2_settle_80 rfl ?_
      refine ab_iaload' hG 81 _ _ _ _ 8 t3 24 _ dX2_settle_81 rfl h.1 ?_
      have h := h.2
      refine ab_aload' hG 82 _ _ _ _ 4 _ dX2_settle_82 rfl ?_
      refine ab_gR hG 84 _ _ _ _ 55 4 3 t4 (8, t4) dX2_settle_84 (List.Mem.head _) rfl ?_
      refine ab_iload_n' hG 87 _ _ _ _ 1 _ dX2_settle_87 rfl ?_
      refine ab_iaload' hG 88 _ _ _ _ 8 t4 24 _ dX2_settle_88 rfl h.1 ?_
      have h := h.2
      exact ab_invs' hG 89 _ [_, _, _] _ _ 0 58 _ 3 1 0 _ dX2_settle_89 rfl rfl (Nat.le_of_ble_eq_true rfl) (Nat.le_of_ble_eq_true rfl) h
    · have h := h.1 hc
      refine ab_aload' hG 28 _ _ _ _ 4 _ dX2_settle_28 rfl ?_
      refine ab_iload_n' hG 30 _ _ _ _ 1 _ dX2_settle_30 rfl ?_
      exact ab_invv' hG 31 _ [_] _ _ 0 29 _ 1 1 0 _ (4, _) dX2_settle_31 rfl rfl rfl rfl (Nat.le_of_ble_eq_true rfl) (Nat.le_of_ble_eq_true rfl) h
theorem bl_X2_settle_34 {Q : ab_Po} {G : ab_Gt} (hG : ab_Cl M_X2_settle Q G) (x1 : Int32) (t2 : Nat) (t3 : Nat) (t4 : Nat) (x5 : Int32) (xs0 : Int32) (S : ab_S) (h : (xs0 = 0 → vp_in x1 24 ∧ vp_in x1 24 ∧ vp_in x1 24 ∧ Sp_X2_agreed [(.inl (S 8 t2 x1.toNatClampNeg)), (.inl (S 8 t3 x1.toNatClampNeg)), (.inl (S 8 t4 x1.toNatClampNeg))] S (ab_back Q G 92 [some (.inr (2, 0)), some (.inl x1), some (.inr (4, t2)), some (.inr (4, t3)), some (.inr (4, t4)), some (.inl x5), none, none] [] 0)) ∧ (¬ xs0 = 0 → Sp_X4_holds [(.inr (4, t2)), (.inl x1)] S (ab_back Q G 42 [some (.inr (2, 0)), some (.inl x1), some (.inr (4, t2)), some (.inr (4, t3)), some (.inr (4, t4)), some (.inl x5), none, none] [] 0))) : G 34 [some (.inr (2, 0)), some (.inl x1), some (.inr (4, t2)), some (.inr (4, t3)), some (.inr (4, t4)), some (.inl x5), none, none] [(.inl xs0)] S 0 := by
  refine ab_if_eq' hG 34 _ _ _ _ (36) 70 _ dX2_settle_34 (by decide) (fun hc => ?_) (fun hc => ?_)
  · have h := h.1 hc
    refine ab_aload_n' hG 70 _ _ _ _ 2 _ dX2_settle_70 rfl ?_
    refine ab_gR hG 71 _ _ _ _ 55 4 3 t2 (8, t2) dX2_settle_71 (List.Mem.head _) rfl ?_
    refine ab_iload_n' hG 74 _ _ _ _ 1 _ dX2_settle_74 rfl ?_
    refine ab_iaload' hG 75 _ _ _ _ 8 t2 24 _ dX2_settle_75 rfl h.1 ?_
    have h := h.2
    refine ab_aload_n' hG 76 _ _ _ _ 3 _ dX2_settle_76 rfl ?_
    refine ab_gR hG 77 _ _ _ _ 55 4 3 t3 (8, t3) dX2_settle_77 (List.Mem.head _) rfl ?_
    refine ab_iload_n' hG 80 _ _ _ _ 1 _ dX2_settle_80 rfl ?_
    refine ab_iaload' hG 81 _ _ _ _ 8 t3 24 _ dX2_settle_81 rfl h.1 ?_
    have h := h.2
    refine ab_aload' hG 82 _ _ _ _ 4 _ dX2_settle_82 rfl ?_
    refine ab_gR hG 84 _ _ _ _ 55 4 3 t4 (8, t4) dX2_settle_84 (List.Mem.head _) rfl ?_
    refine ab_iload_n' hG 87 _ _ _ _ 1 _ dX2_settle_87 rfl ?_
    refine ab_iaload' hG 88 _ _ _ _ 8 t4 24 _ dX2_settle_88 rfl h.1 ?_
    have h := h.2
    exact ab_invs' hG 89 _ [_, _, _] _ _ 0 58 _ 3 1 0 _ dX2_settle_89 rfl rfl (Nat.le_of_ble_eq_true rfl) (Nat.le_of_ble_eq_true rfl) h
  · have h := h.2 hc
    refine ab_aload_n' hG 37 _ _ _ _ 2 _ dX2_settle_37 rfl ?_
    refine ab_iload_n' hG 38 _ _ _ _ 1 _ dX2_settle_38 rfl ?_
    exact ab_invv' hG 39 _ [_] _ _ 0 29 _ 1 1 0 _ (4, _) dX2_settle_39 rfl rfl rfl rfl (Nat.le_of_ble_eq_true rfl) (Nat.le_of_ble_eq_true rfl) h
theorem bl_X2_settle_42 {Q : ab_Po} {G : ab_Gt} (hG : ab_Cl M_X2_settle Q G) (x1 : Int32) (t2 : Nat) (t3 : Nat) (t4 : Nat) (x5 : Int32) (xs0 : Int32) (S : ab_S) (h : (xs0 = 0 → Sp_X4_hasAsIn [(.inr (4, t3)), (.inr (4, t4)), (.inl x1)] S (ab_back Q G 60 [some (.inr (2, 0)), some (.inl x1), some (.inr (4, t2)), some (.inr (4, t3)), some (.inr (4, t4)), some (.inl x5), some (.inr (4, t3)), none] [] 0)) ∧ (¬ xs0 = 0 → Sp_X4_hasAsIn [(.inr (4, t2)), (.inr (4, t4)), (.inl x1)] S (ab_back Q G 60 [some (.inr (2, 0)), some (.inl x1), some (.inr (4, t2)), some (.inr (4, t3)), some (.inr (4, t4)), some (.inl x5), some (.inr (4, t2)), none] [] 0))) : G 42 [some (.inr (2, 0)), some (.inl x1), some (.inr (4, t2)), some (.inr (4, t3)), some (.inr (4, t4)), some (.inl x5), none, none] [(.inl xs0)] S 0 := by
  refine ab_if_eq' hG 42 _ _ _ _ (7) 49 _ dX2_settle_42 (by decide) (fun hc => ?_) (fun hc => ?_)
  · have h := h.1 hc
    refine ab_aload_n' hG 49 _ _ _ _ 3 _ dX2_settle_49 rfl ?_
    refine ab_astore' hG 50 _ _ _ _ 6 _ dX2_settle_50 (Nat.le_of_ble_eq_true rfl) ?_
    refine ab_aload' hG 52 _ _ _ _ 6 _ dX2_settle_52 rfl ?_
    refine ab_aload' hG 54 _ _ _ _ 4 _ dX2_settle_54 rfl ?_
    refine ab_iload_n' hG 56 _ _ _ _ 1 _ dX2_settle_56 rfl ?_
    exact ab_invv' hG 57 _ [_, _] _ _ 0 47 _ 2 1 0 _ (4, _) dX2_settle_57 rfl rfl rfl rfl (Nat.le_of_ble_eq_true rfl) (Nat.le_of_ble_eq_true rfl) h
  · have h := h.2 hc
    refine ab_aload_n' hG 45 _ _ _ _ 2 _ dX2_settle_45 rfl ?_
    refine ab_goto' hG 46 _ _ _ _ (4) 50 dX2_settle_46 (by decide) ?_
    refine ab_astore' hG 50 _ _ _ _ 6 _ dX2_settle_50 (Nat.le_of_ble_eq_true rfl) ?_
    refine ab_aload' hG 52 _ _ _ _ 6 _ dX2_settle_52 rfl ?_
    refine ab_aload' hG 54 _ _ _ _ 4 _ dX2_settle_54 rfl ?_
    refine ab_iload_n' hG 56 _ _ _ _ 1 _ dX2_settle_56 rfl ?_
    exact ab_invv' hG 57 _ [_, _] _ _ 0 47 _ 2 1 0 _ (4, _) dX2_settle_57 rfl rfl rfl rfl (Nat.le_of_ble_eq_true rfl) (Nat.le_of_ble_eq_true rfl) h
theorem bl_X2_settle_60 {Q : ab_Po} {G : ab_Gt} (hG : ab_Cl M_X2_settle Q G) (x1 : Int32) (t2 : Nat) (t3 : Nat) (t4 : Nat) (x5 : Int32) (t6 : Nat) (xs0 : Int32) (S : ab_S) (h : (xs0 = 0 → Sp_X2_name [(.inr (2, 0)), (.inl x1), (.inl (1 : Int32))] S (ab_back Q G 69 [some (.inr (2, 0)), some (.inl x1), some (.inr (4, t2)), some (.inr (4, t3)), some (.inr (4, t4)), some (.inl x5), some (.inr (4, t6)), none] [] 0)) ∧ (¬ xs0 = 0 → Q (.inl none) S)) : G 60 [some (.inr (2, 0)), some (.inl x1), some (.inr (4, t2)), some (.inr (4, t3)), some (.inr (4, t4)), some (.inl x5), some (.inr (4, t6)), none] [(.inl xs0)] S 0 := by
  refine ab_if_ne' hG 60 _ _ _ _ (9) 69 _ dX2_settle_60 (by decide) (fun hc => ?_) (fun hc => ?_)
  · have h := h.2 hc
    exact ab_return_' hG 69 _ _ _ dX2_settle_69 rfl (by decide) h
  · have h := h.1 hc
    refine ab_aload_n' hG 63 _ _ _ _ 0 _ dX2_settle_63 rfl ?_
    refine ab_iload_n' hG 64 _ _ _ _ 1 _ dX2_settle_64 rfl ?_
    refine ab_iconst' hG 65 _ _ _ _ 1 1 dX2_settle_65 (by decide) ?_
    exact ab_invv' hG 66 _ [_, _] _ _ 0 51 _ 2 0 0 _ (2, _) dX2_settle_66 rfl rfl rfl rfl (Nat.le_of_ble_eq_true rfl) (Nat.le_of_ble_eq_true rfl) h
theorem bl_X2_settle_69 {Q : ab_Po} {G : ab_Gt} (hG : ab_Cl M_X2_settle Q G) (x1 : Int32) (t2 : Nat) (t3 : Nat) (t4 : Nat) (x5 : Int32) (t6 : Nat) (S : ab_S) (h : Q (.inl none) S) : G 69 [some (.inr (2, 0)), some (.inl x1), some (.inr (4, t2)), some (.inr (4, t3)), some (.inr (4, t4)), some (.inl x5), some (.inr (4, t6)), none] [] S 0 := by
  exact ab_return_' hG 69 _ _ _ dX2_settle_69 rfl (by decide) h
theorem bl_X2_settle_92 {Q : ab_Po} {G : ab_Gt} (hG : ab_Cl M_X2_settle Q G) (x1 : Int32) (t2 : Nat) (t3 : Nat) (t4 : Nat) (x5 : Int32) (xs0 : Int32) (S : ab_S) (h : vp_in x1 24 ∧ vp_in x1 24 ∧ vp_in x1 24 ∧ Sp_X2_agreed [(.inl (S 7 t2 x1.toNatClampNeg)), (.inl (S 7 t3 x1.toNatClampNeg)), (.inl (S 7 t4 x1.toNatClampNeg))] S (ab_back Q G 116 [some (.inr (2, 0)), some (.inl x1), some (.inr (4, t2)), some (.inr (4, t3)), some (.inr (4, t4)), some (.inl x5), some (.inl xs0), none] [] 0)) : G 92 [some (.inr (2, 0)), some (.inl x1), some (.inr (4, t2)), some (.inr (4, t3)), some (.inr (4, t4)), some (.inl x5), none, none] [(.inl xs0)] S 0 := by
  refine ab_istore' hG 92 _ _ _ _ 6 _ dX2_settle_92 (Nat.le_of_ble_eq_true rfl) ?_
  refine ab_aload_n' hG 94 _ _ _ _ 2 _ dX2_settle_94 rfl ?_
  refine ab_gR hG 95 _ _ _ _ 62 4 2 t2 (7, t2) dX2_settle_95 (List.Mem.tail _ (List.Mem.head _)) rfl ?_
  refine ab_iload_n' hG 98 _ _ _ _ 1 _ dX2_settle_98 rfl ?_
  refine ab_iaload' hG 99 _ _ _ _ 7 t2 24 _ dX2_settle_99 rfl h.1 ?_
  have h := h.2
  refine ab_aload_n' hG 100 _ _ _ _ 3 _ dX2_settle_100 rfl ?_
  refine ab_gR hG 101 _ _ _ _ 62 4 2 t3 (7, t3) dX2_settle_101 (List.Mem.tail _ (List.Mem.head _)) rfl ?_
  refine ab_iload_n' hG 104 _ _ _ _ 1 _ dX2_settle_104 rfl ?_
  refine ab_iaload' hG 105 _ _ _ _ 7 t3 24 _ dX2_settle_105 rfl h.1 ?_
  have h := h.2
  refine ab_aload' hG 106 _ _ _ _ 4 _ dX2_settle_106 rfl ?_
  refine ab_gR hG 108 _ _ _ _ 62 4 2 t4 (7, t4) dX2_settle_108 (List.Mem.tail _ (List.Mem.head _)) rfl ?_
  refine ab_iload_n' hG 111 _ _ _ _ 1 _ dX2_settle_111 rfl ?_
  refine ab_iaload' hG 112 _ _ _ _ 7 t4 24 _ dX2_settle_112 rfl h.1 ?_
  have h := h.2
  exact ab_invs' hG 113 _ [_, _, _] _ _ 0 58 _ 3 1 0 _ dX2_settle_113 rfl rfl (Nat.le_of_ble_eq_true rfl) (Nat.le_of_ble_eq_true rfl) h
theorem bl_X2_settle_116 {Q : ab_Po} {G : ab_Gt} (hG : ab_Cl M_X2_settle Q G) (x1 : Int32) (t2 : Nat) (t3 : Nat) (t4 : Nat) (x5 : Int32) (x6 : Int32) (xs0 : Int32) (S : ab_S) (h : (x6 = (-3 : Int32) → Sp_X2_name [(.inr (2, 0)), (.inl x1), (.inl (2 : Int32))] S (ab_back Q G 131 [some (.inr (2, 0)), some (.inl x1), some (.inr (4, t2)), some (.inr (4, t3)), some (.inr (4, t4)), some (.inl x5), some (.inl x6), some (.inl xs0)] [] 0)) ∧ (¬ x6 = (-3 : Int32) → (xs0 = (-3 : Int32) → Sp_X2_name [(.inr (2, 0)), (.inl x1), (.inl (3 : Int32))] S (ab_back Q G 147 [some (.inr (2, 0)), some (.inl x1), some (.inr (4, t2)), some (.inr (4, t3)), some (.inr (4, t4)), some (.inl x5), some (.inl x6), some (.inl xs0)] [] 0)) ∧ (¬ xs0 = (-3 : Int32) → vp_in x1 24 ∧ (∀ S1 : ab_S, S1 = ab_su S 8 13 x1.toNatClampNeg x6 → vp_in x1 24 ∧ (∀ S2 : ab_S, S2 = ab_su S1 7 13 x1.toNatClampNeg xs0 → Q (.inl none) S2))))) : G 116 [some (.inr (2, 0)), some (.inl x1), some (.inr (4, t2)), some (.inr (4, t3)), some (.inr (4, t4)), some (.inl x5), some (.inl x6), none] [(.inl xs0)] S 0 := by
  refine ab_istore' hG 116 _ _ _ _ 7 _ dX2_settle_116 (Nat.le_of_ble_eq_true rfl) ?_
  refine ab_iload' hG 118 _ _ _ _ 6 _ dX2_settle_118 rfl ?_
  refine ab_bipush' hG 120 _ _ _ _ (-3) (-3) dX2_settle_120 (by decide) ?_
  refine ab_icmp_ne' hG 122 _ _ _ _ (12) 134 _ _ dX2_settle_122 (by decide) (fun hc => ?_) (fun hc => ?_)
  · have h := h.2 hc
    refine ab_iload' hG 134 _ _ _ _ 7 _ dX2_settle_134 rfl ?_
    refine ab_bipush' hG 136 _ _ _ _ (-3) (-3) dX2_settle_136 (by decide) ?_
    refine ab_icmp_ne' hG 138 _ _ _ _ (12) 150 _ _ dX2_settle_138 (by decide) (fun hc => ?_) (fun hc => ?_)
    · have h := h.2 hc
      refine ab_aload_n' hG 150 _ _ _ _ 0 _ dX2_settle_150 rfl ?_
      refine ab_gR hG 151 _ _ _ _ 12 2 0 0 (4, 13) dX2_settle_151 (List.Mem.tail _ (List.Mem.tail _ (List.Mem.head _))) rfl ?_
      refine ab_gR hG 154 _ _ _ _ 55 4 3 13 (8, 13) dX2_settle_154 (List.Mem.head _) rfl ?_
      refine ab_iload_n' hG 157 _ _ _ _ 1 _ dX2_settle_157 rfl ?_
      refine ab_iload' hG 158 _ _ _ _ 6 _ dX2_settle_158 rfl ?_
      refine ab_iastore' hG 160 _ _ _ _ 8 13 24 _ _ dX2_settle_160 rfl h.1 ?_
      have h := h.2
      have h := h _ rfl
      refine ab_aload_n' hG 161 _ _ _ _ 0 _ dX2_settle_161 rfl ?_
      refine ab_gR hG 162 _ _ _ _ 12 2 0 0 (4, 13) dX2_settle_162 (List.Mem.tail _ (List.Mem.tail _ (List.Mem.head _))) rfl ?_
      refine ab_gR hG 165 _ _ _ _ 62 4 2 13 (7, 13) dX2_settle_165 (List.Mem.tail _ (List.Mem.head _)) rfl ?_
      refine ab_iload_n' hG 168 _ _ _ _ 1 _ dX2_settle_168 rfl ?_
      refine ab_iload' hG 169 _ _ _ _ 7 _ dX2_settle_169 rfl ?_
      refine ab_iastore' hG 171 _ _ _ _ 7 13 24 _ _ dX2_settle_171 rfl h.1 ?_
      have h := h.2
      have h := h _ rfl
      exact ab_return_' hG 172 _ _ _ dX2_settle_172 rfl (by decide) h
    · have h := h.1 hc
      refine ab_aload_n' hG 141 _ _ _ _ 0 _ dX2_settle_141 rfl ?_
      refine ab_iload_n' hG 142 _ _ _ _ 1 _ dX2_settle_142 rfl ?_
      refine ab_iconst' hG 143 _ _ _ _ 3 3 dX2_settle_143 (by decide) ?_
      exact ab_invv' hG 144 _ [_, _] _ _ 0 51 _ 2 0 0 _ (2, _) dX2_settle_144 rfl rfl rfl rfl (Nat.le_of_ble_eq_true rfl) (Nat.le_of_ble_eq_true rfl) h
  · have h := h.1 hc
    refine ab_aload_n' hG 125 _ _ _ _ 0 _ dX2_settle_125 rfl ?_
    refine ab_iload_n' hG 126 _ _ _ _ 1 _ dX2_settle_126 rfl ?_
    refine ab_iconst' hG 127 _ _ _ _ 2 2 dX2_settle_127 (by decide) ?_
    exact ab_invv' hG 128 _ [_, _] _ _ 0 51 _ 2 0 0 _ (2, _) dX2_settle_128 rfl rfl rfl rfl (Nat.le_of_ble_eq_true rfl) (Nat.le_of_ble_eq_true rfl) h
theorem bl_X2_settle_131 {Q : ab_Po} {G : ab_Gt} (hG : ab_Cl M_X2_settle Q G) (x1 : Int32) (t2 : Nat) (t3 : Nat) (t4 : Nat) (x5 : Int32) (x6 : Int32) (x7 : Int32) (S : ab_S) (h : Q (.inl none) S) : G 131 [some (.inr (2, 0)), some (.inl x1), some (.inr (4, t2)), some (.inr (4, t3)), some (.inr (4, t4)), some (.inl x5), some (.inl x6), some (.inl x7)] [] S 0 := by
  refine ab_goto' hG 131 _ _ _ _ (41) 172 dX2_settle_131 (by decide) ?_
  exact ab_return_' hG 172 _ _ _ dX2_settle_172 rfl (by decide) h
theorem bl_X2_settle_147 {Q : ab_Po} {G : ab_Gt} (hG : ab_Cl M_X2_settle Q G) (x1 : Int32) (t2 : Nat) (t3 : Nat) (t4 : Nat) (x5 : Int32) (x6 : Int32) (x7 : Int32) (S : ab_S) (h : Q (.inl none) S) : G 147 [some (.inr (2, 0)), some (.inl x1), some (.inr (4, t2)), some (.inr (4, t3)), some (.inr (4, t4)), some (.inl x5), some (.inl x6), some (.inl x7)] [] S 0 := by
  refine ab_goto' hG 147 _ _ _ _ (25) 172 dX2_settle_147 (by decide) ?_
  exact ab_return_' hG 172 _ _ _ dX2_settle_172 rfl (by decide) h
theorem bl_X2_nameThoseWithoutParent_0 {Q : ab_Po} {G : ab_Gt} (hG : ab_Cl M_X2_nameThoseWithoutParent Q G)  (S : ab_S) (h : G 2 [some (.inr (2, 0)), some (.inl (1 : Int32))] [] S 0) : G 0 [some (.inr (2, 0)), none] [] S 0 := by
  refine ab_iconst' hG 0 _ _ _ _ 1 1 dX2_nameThoseWithoutParent_0 (by decide) ?_
  refine ab_istore_n' hG 1 _ _ _ _ 1 _ dX2_nameThoseWithoutParent_1 (Nat.le_of_ble_eq_true rfl) ?_
  exact h
theorem bl_X2_nameThoseWithoutParent_2 {Q : ab_Po} {G : ab_Gt} (hG : ab_Cl M_X2_nameThoseWithoutParent Q G) (x1 : Int32) (S : ab_S) (h : ((24 : Int32) ≤ x1 → Q (.inl none) S) ∧ (¬ (24 : Int32) ≤ x1 → Sp_X4_holds [(.inr (4, 13)), (.inl x1)] S (ab_back Q G 16 [some (.inr (2, 0)), some (.inl x1)] [] 0))) : G 2 [some (.inr (2, 0)), some (.inl x1)] [] S 0 := by
  refine ab_iload_n' hG 2 _ _ _ _ 1 _ dX2_nameThoseWithoutParent_2 rfl ?_
  refine ab_bipush' hG 3 _ _ _ _ 24 24 dX2_nameThoseWithoutParent_3 (by decide) ?_
  refine ab_icmp_ge' hG 5 _ _ _ _ (45) 50 _ _ dX2_nameThoseWithoutParent_5 (by decide) (fun hc => ?_) (fun hc => ?_)
  · have h := h.1 hc
    exact ab_return_' hG 50 _ _ _ dX2_nameThoseWithoutParent_50 rfl (by decide) h
  · have h := h.2 hc
    refine ab_aload_n' hG 8 _ _ _ _ 0 _ dX2_nameThoseWithoutParent_8 rfl ?_
    refine ab_gR hG 9 _ _ _ _ 12 2 0 0 (4, 13) dX2_nameThoseWithoutParent_9 (List.Mem.head _) rfl ?_
    refine ab_iload_n' hG 12 _ _ _ _ 1 _ dX2_nameThoseWithoutParent_12 rfl ?_
    exact ab_invv' hG 13 _ [_] _ _ 0 29 _ 1 1 0 _ (4, _) dX2_nameThoseWithoutParent_13 rfl rfl rfl rfl (Nat.le_of_ble_eq_true rfl) (Nat.le_of_ble_eq_true rfl) h
theorem bl_X2_nameThoseWithoutParent_16 {Q : ab_Po} {G : ab_Gt} (hG : ab_Cl M_X2_nameThoseWithoutParent Q G) (x1 : Int32) (xs0 : Int32) (S : ab_S) (h : (xs0 = 0 → G 2 [some (.inr (2, 0)), some (.inl (x1 + 1))] [] S 0) ∧ (¬ xs0 = 0 → vp_in x1 24 ∧ Sp_X4_holds [(.inr (4, 13)), (.inl (S 7 13 x1.toNatClampNeg))] S (ab_back Q G 35 [some (.inr (2, 0)), some (.inl x1)] [] 0))) : G 16 [some (.inr (2, 0)), some (.inl x1)] [(.inl xs0)] S 0 := by
  refine ab_if_eq' hG 16 _ _ _ _ (28) 44 _ dX2_nameThoseWithoutParent_16 (by decide) (fun hc => ?_) (fun hc => ?_)
  · have h := h.1 hc
    refine ab_iinc' hG 44 _ _ _ _ 1 1 _ _ dX2_nameThoseWithoutParent_44 rfl rfl ?_
    refine ab_goto' hG 47 _ _ _ _ (-45) 2 dX2_nameThoseWithoutParent_47 (by decide) ?_
    exact h
  · have h := h.2 hc
    refine ab_aload_n' hG 19 _ _ _ _ 0 _ dX2_nameThoseWithoutParent_19 rfl ?_
    refine ab_gR hG 20 _ _ _ _ 12 2 0 0 (4, 13) dX2_nameThoseWithoutParent_20 (List.Mem.head _) rfl ?_
    refine ab_aload_n' hG 23 _ _ _ _ 0 _ dX2_nameThoseWithoutParent_23 rfl ?_
    refine ab_gR hG 24 _ _ _ _ 12 2 0 0 (4, 13) dX2_nameThoseWithoutParent_24 (List.Mem.head _) rfl ?_
    refine ab_gR hG 27 _ _ _ _ 62 4 2 13 (7, 13) dX2_nameThoseWithoutParent_27 (List.Mem.tail _ (List.Mem.head _)) rfl ?_
    refine ab_iload_n' hG 30 _ _ _ _ 1 _ dX2_nameThoseWithoutParent_30 rfl ?_
    refine ab_iaload' hG 31 _ _ _ _ 7 13 24 _ dX2_nameThoseWithoutParent_31 rfl h.1 ?_
    have h := h.2
    exact ab_invv' hG 32 _ [_] _ _ 0 29 _ 1 1 0 _ (4, _) dX2_nameThoseWithoutParent_32 rfl rfl rfl rfl (Nat.le_of_ble_eq_true rfl) (Nat.le_of_ble_eq_true rfl) h
theorem bl_X2_nameThoseWithoutParent_35 {Q : ab_Po} {G : ab_Gt} (hG : ab_Cl M_X2_nameThoseWithoutParent Q G) (x1 : Int32) (xs0 : Int32) (S : ab_S) (h : (xs0 = 0 → Sp_X2_name [(.inr (2, 0)), (.inl x1), (.inl (4 : Int32))] S (ab_back Q G 44 [some (.inr (2, 0)), some (.inl x1)] [] 0)) ∧ (¬ xs0 = 0 → G 2 [some (.inr (2, 0)), some (.inl (x1 + 1))] [] S 0)) : G 35 [some (.inr (2, 0)), some (.inl x1)] [(.inl xs0)] S 0 := by
  refine ab_if_ne' hG 35 _ _ _ _ (9) 44 _ dX2_nameThoseWithoutParent_35 (by decide) (fun hc => ?_) (fun hc => ?_)
  · have h := h.2 hc
    refine ab_iinc' hG 44 _ _ _ _ 1 1 _ _ dX2_nameThoseWithoutParent_44 rfl rfl ?_
    refine ab_goto' hG 47 _ _ _ _ (-45) 2 dX2_nameThoseWithoutParent_47 (by decide) ?_
    exact h
  · have h := h.1 hc
    refine ab_aload_n' hG 38 _ _ _ _ 0 _ dX2_nameThoseWithoutParent_38 rfl ?_
    refine ab_iload_n' hG 39 _ _ _ _ 1 _ dX2_nameThoseWithoutParent_39 rfl ?_
    refine ab_iconst' hG 40 _ _ _ _ 4 4 dX2_nameThoseWithoutParent_40 (by decide) ?_
    exact ab_invv' hG 41 _ [_, _] _ _ 0 51 _ 2 0 0 _ (2, _) dX2_nameThoseWithoutParent_41 rfl rfl rfl rfl (Nat.le_of_ble_eq_true rfl) (Nat.le_of_ble_eq_true rfl) h
theorem bl_X2_nameThoseWithoutParent_44 {Q : ab_Po} {G : ab_Gt} (hG : ab_Cl M_X2_nameThoseWithoutParent Q G) (x1 : Int32) (S : ab_S) (h : G 2 [some (.inr (2, 0)), some (.inl (x1 + 1))] [] S 0) : G 44 [some (.inr (2, 0)), some (.inl x1)] [] S 0 := by
  refine ab_iinc' hG 44 _ _ _ _ 1 1 _ _ dX2_nameThoseWithoutParent_44 rfl rfl ?_
  refine ab_goto' hG 47 _ _ _ _ (-45) 2 dX2_nameThoseWithoutParent_47 (by decide) ?_
  exact h
theorem bl_X2_comesToRoot_0 {Q : ab_Po} {G : ab_Gt} (hG : ab_Cl M_X2_comesToRoot Q G) (x1 : Int32) (S : ab_S) (h : G 4 [some (.inr (2, 0)), some (.inl x1), some (.inl x1), some (.inl (0 : Int32))] [] S 0) : G 0 [some (.inr (2, 0)), some (.inl x1), none, none] [] S 0 := by
  refine ab_iload_n' hG 0 _ _ _ _ 1 _ dX2_comesToRoot_0 rfl ?_
  refine ab_istore_n' hG 1 _ _ _ _ 2 _ dX2_comesToRoot_1 (Nat.le_of_ble_eq_true rfl) ?_
  refine ab_iconst' hG 2 _ _ _ _ 0 0 dX2_comesToRoot_2 (by decide) ?_
  refine ab_istore_n' hG 3 _ _ _ _ 3 _ dX2_comesToRoot_3 (Nat.le_of_ble_eq_true rfl) ?_
  exact h
theorem bl_X2_comesToRoot_4 {Q : ab_Po} {G : ab_Gt} (hG : ab_Cl M_X2_comesToRoot Q G) (x1 : Int32) (x2 : Int32) (x3 : Int32) (S : ab_S) (h : ((24 : Int32) ≤ x3 → (x2 = 0 → Q (.inl (some (1 : Int32))) S) ∧ (¬ x2 = 0 → Q (.inl (some (0 : Int32))) S)) ∧ (¬ (24 : Int32) ≤ x3 → (x2 ≤ 0 → (x2 = 0 → Q (.inl (some (1 : Int32))) S) ∧ (¬ x2 = 0 → Q (.inl (some (0 : Int32))) S)) ∧ (¬ x2 ≤ 0 → vp_in x2 24 ∧ G 4 [some (.inr (2, 0)), some (.inl x1), some (.inl (S 7 13 x2.toNatClampNeg)), some (.inl (x3 + 1))] [] S 0))) : G 4 [some (.inr (2, 0)), some (.inl x1), some (.inl x2), some (.inl x3)] [] S 0 := by
  refine ab_iload_n' hG 4 _ _ _ _ 3 _ dX2_comesToRoot_4 rfl ?_
  refine ab_bipush' hG 5 _ _ _ _ 24 24 dX2_comesToRoot_5 (by decide) ?_
  refine ab_icmp_ge' hG 7 _ _ _ _ (23) 30 _ _ dX2_comesToRoot_7 (by decide) (fun hc => ?_) (fun hc => ?_)
  · have h := h.1 hc
    refine ab_iload_n' hG 30 _ _ _ _ 2 _ dX2_comesToRoot_30 rfl ?_
    refine ab_if_ne' hG 31 _ _ _ _ (7) 38 _ dX2_comesToRoot_31 (by decide) (fun hc => ?_) (fun hc => ?_)
    · have h := h.2 hc
      refine ab_iconst' hG 38 _ _ _ _ 0 0 dX2_comesToRoot_38 (by decide) ?_
      exact ab_ireturn' hG 39 _ _ _ _ dX2_comesToRoot_39 (Or.inr ⟨rfl, Or.inl rfl⟩) (by decide) h
    · have h := h.1 hc
      refine ab_iconst' hG 34 _ _ _ _ 1 1 dX2_comesToRoot_34 (by decide) ?_
      refine ab_goto' hG 35 _ _ _ _ (4) 39 dX2_comesToRoot_35 (by decide) ?_
      exact ab_ireturn' hG 39 _ _ _ _ dX2_comesToRoot_39 (Or.inr ⟨rfl, Or.inr rfl⟩) (by decide) h
  · have h := h.2 hc
    refine ab_iload_n' hG 10 _ _ _ _ 2 _ dX2_comesToRoot_10 rfl ?_
    refine ab_if_le' hG 11 _ _ _ _ (19) 30 _ dX2_comesToRoot_11 (by decide) (fun hc => ?_) (fun hc => ?_)
    · have h := h.1 hc
      refine ab_iload_n' hG 30 _ _ _ _ 2 _ dX2_comesToRoot_30 rfl ?_
      refine ab_if_ne' hG 31 _ _ _ _ (7) 38 _ dX2_comesToRoot_31 (by decide) (fun hc => ?_) (fun hc => ?_)
      · have h := h.2 hc
        refine ab_iconst' hG 38 _ _ _ _ 0 0 dX2_comesToRoot_38 (by decide) ?_
        exact ab_ireturn' hG 39 _ _ _ _ dX2_comesToRoot_39 (Or.inr ⟨rfl, Or.inl rfl⟩) (by decide) h
      · have h := h.1 hc
        refine ab_iconst' hG 34 _ _ _ _ 1 1 dX2_comesToRoot_34 (by decide) ?_
        refine ab_goto' hG 35 _ _ _ _ (4) 39 dX2_comesToRoot_35 (by decide) ?_
        exact ab_ireturn' hG 39 _ _ _ _ dX2_comesToRoot_39 (Or.inr ⟨rfl, Or.inr rfl⟩) (by decide) h
    · have h := h.2 hc
      refine ab_aload_n' hG 14 _ _ _ _ 0 _ dX2_comesToRoot_14 rfl ?_
      refine ab_gR hG 15 _ _ _ _ 12 2 0 0 (4, 13) dX2_comesToRoot_15 (List.Mem.head _) rfl ?_
      refine ab_gR hG 18 _ _ _ _ 62 4 2 13 (7, 13) dX2_comesToRoot_18 (List.Mem.tail _ (List.Mem.head _)) rfl ?_
      refine ab_iload_n' hG 21 _ _ _ _ 2 _ dX2_comesToRoot_21 rfl ?_
      refine ab_iaload' hG 22 _ _ _ _ 7 13 24 _ dX2_comesToRoot_22 rfl h.1 ?_
      have h := h.2
      refine ab_istore_n' hG 23 _ _ _ _ 2 _ dX2_comesToRoot_23 (Nat.le_of_ble_eq_true rfl) ?_
      refine ab_iinc' hG 24 _ _ _ _ 3 1 _ _ dX2_comesToRoot_24 rfl rfl ?_
      refine ab_goto' hG 27 _ _ _ _ (-23) 4 dX2_comesToRoot_27 (by decide) ?_
      exact h
theorem bl_X2_nameThoseCutOff_0 {Q : ab_Po} {G : ab_Gt} (hG : ab_Cl M_X2_nameThoseCutOff Q G)  (S : ab_S) (h : G 2 [some (.inr (2, 0)), some (.inl (1 : Int32))] [] S 0) : G 0 [some (.inr (2, 0)), none] [] S 0 := by
  refine ab_iconst' hG 0 _ _ _ _ 1 1 dX2_nameThoseCutOff_0 (by decide) ?_
  refine ab_istore_n' hG 1 _ _ _ _ 1 _ dX2_nameThoseCutOff_1 (Nat.le_of_ble_eq_true rfl) ?_
  exact h
theorem bl_X2_nameThoseCutOff_2 {Q : ab_Po} {G : ab_Gt} (hG : ab_Cl M_X2_nameThoseCutOff Q G) (x1 : Int32) (S : ab_S) (h : ((24 : Int32) ≤ x1 → Q (.inl none) S) ∧ (¬ (24 : Int32) ≤ x1 → Sp_X4_holds [(.inr (4, 13)), (.inl x1)] S (ab_back Q G 16 [some (.inr (2, 0)), some (.inl x1)] [] 0))) : G 2 [some (.inr (2, 0)), some (.inl x1)] [] S 0 := by
  refine ab_iload_n' hG 2 _ _ _ _ 1 _ dX2_nameThoseCutOff_2 rfl ?_
  refine ab_bipush' hG 3 _ _ _ _ 24 24 dX2_nameThoseCutOff_3 (by decide) ?_
  refine ab_icmp_ge' hG 5 _ _ _ _ (34) 39 _ _ dX2_nameThoseCutOff_5 (by decide) (fun hc => ?_) (fun hc => ?_)
  · have h := h.1 hc
    exact ab_return_' hG 39 _ _ _ dX2_nameThoseCutOff_39 rfl (by decide) h
  · have h := h.2 hc
    refine ab_aload_n' hG 8 _ _ _ _ 0 _ dX2_nameThoseCutOff_8 rfl ?_
    refine ab_gR hG 9 _ _ _ _ 12 2 0 0 (4, 13) dX2_nameThoseCutOff_9 (List.Mem.head _) rfl ?_
    refine ab_iload_n' hG 12 _ _ _ _ 1 _ dX2_nameThoseCutOff_12 rfl ?_
    exact ab_invv' hG 13 _ [_] _ _ 0 29 _ 1 1 0 _ (4, _) dX2_nameThoseCutOff_13 rfl rfl rfl rfl (Nat.le_of_ble_eq_true rfl) (Nat.le_of_ble_eq_true rfl) h
theorem bl_X2_nameThoseCutOff_16 {Q : ab_Po} {G : ab_Gt} (hG : ab_Cl M_X2_nameThoseCutOff Q G) (x1 : Int32) (xs0 : Int32) (S : ab_S) (h : (xs0 = 0 → G 2 [some (.inr (2, 0)), some (.inl (x1 + 1))] [] S 0) ∧ (¬ xs0 = 0 → Sp_X2_comesToRoot [(.inr (2, 0)), (.inl x1)] S (ab_back Q G 24 [some (.inr (2, 0)), some (.inl x1)] [] 0))) : G 16 [some (.inr (2, 0)), some (.inl x1)] [(.inl xs0)] S 0 := by
  refine ab_if_eq' hG 16 _ _ _ _ (17) 33 _ dX2_nameThoseCutOff_16 (by decide) (fun hc => ?_) (fun hc => ?_)
  · have h := h.1 hc
    refine ab_iinc' hG 33 _ _ _ _ 1 1 _ _ dX2_nameThoseCutOff_33 rfl rfl ?_
    refine ab_goto' hG 36 _ _ _ _ (-34) 2 dX2_nameThoseCutOff_36 (by decide) ?_
    exact h
  · have h := h.2 hc
    refine ab_aload_n' hG 19 _ _ _ _ 0 _ dX2_nameThoseCutOff_19 rfl ?_
    refine ab_iload_n' hG 20 _ _ _ _ 1 _ dX2_nameThoseCutOff_20 rfl ?_
    exact ab_invv' hG 21 _ [_] _ _ 0 65 _ 1 1 0 _ (2, _) dX2_nameThoseCutOff_21 rfl rfl rfl rfl (Nat.le_of_ble_eq_true rfl) (Nat.le_of_ble_eq_true rfl) h
theorem bl_X2_nameThoseCutOff_24 {Q : ab_Po} {G : ab_Gt} (hG : ab_Cl M_X2_nameThoseCutOff Q G) (x1 : Int32) (xs0 : Int32) (S : ab_S) (h : (xs0 = 0 → Sp_X2_name [(.inr (2, 0)), (.inl x1), (.inl (5 : Int32))] S (ab_back Q G 33 [some (.inr (2, 0)), some (.inl x1)] [] 0)) ∧ (¬ xs0 = 0 → G 2 [some (.inr (2, 0)), some (.inl (x1 + 1))] [] S 0)) : G 24 [some (.inr (2, 0)), some (.inl x1)] [(.inl xs0)] S 0 := by
  refine ab_if_ne' hG 24 _ _ _ _ (9) 33 _ dX2_nameThoseCutOff_24 (by decide) (fun hc => ?_) (fun hc => ?_)
  · have h := h.2 hc
    refine ab_iinc' hG 33 _ _ _ _ 1 1 _ _ dX2_nameThoseCutOff_33 rfl rfl ?_
    refine ab_goto' hG 36 _ _ _ _ (-34) 2 dX2_nameThoseCutOff_36 (by decide) ?_
    exact h
  · have h := h.1 hc
    refine ab_aload_n' hG 27 _ _ _ _ 0 _ dX2_nameThoseCutOff_27 rfl ?_
    refine ab_iload_n' hG 28 _ _ _ _ 1 _ dX2_nameThoseCutOff_28 rfl ?_
    refine ab_iconst' hG 29 _ _ _ _ 5 5 dX2_nameThoseCutOff_29 (by decide) ?_
    exact ab_invv' hG 30 _ [_, _] _ _ 0 51 _ 2 0 0 _ (2, _) dX2_nameThoseCutOff_30 rfl rfl rfl rfl (Nat.le_of_ble_eq_true rfl) (Nat.le_of_ble_eq_true rfl) h
theorem bl_X2_nameThoseCutOff_33 {Q : ab_Po} {G : ab_Gt} (hG : ab_Cl M_X2_nameThoseCutOff Q G) (x1 : Int32) (S : ab_S) (h : G 2 [some (.inr (2, 0)), some (.inl (x1 + 1))] [] S 0) : G 33 [some (.inr (2, 0)), some (.inl x1)] [] S 0 := by
  refine ab_iinc' hG 33 _ _ _ _ 1 1 _ _ dX2_nameThoseCutOff_33 rfl rfl ?_
  refine ab_goto' hG 36 _ _ _ _ (-34) 2 dX2_nameThoseCutOff_36 (by decide) ?_
  exact h
theorem bl_X2_isChildNowAsIn_0 {Q : ab_Po} {G : ab_Gt} (hG : ab_Cl M_X2_isChildNowAsIn Q G) (t1 : Nat) (x2 : Int32) (x3 : Int32) (S : ab_S) (h : vp_in x2 24 ∧ ((S 7 t1 x2.toNatClampNeg) = x3 → vp_in x2 24 ∧ ((S 7 13 x2.toNatClampNeg) = x3 → Q (.inl (some (1 : Int32))) S) ∧ (¬ (S 7 13 x2.toNatClampNeg) = x3 → Q (.inl (some (0 : Int32))) S)) ∧ (¬ (S 7 t1 x2.toNatClampNeg) = x3 → Q (.inl (some (0 : Int32))) S)) : G 0 [some (.inr (2, 0)), some (.inr (4, t1)), some (.inl x2), some (.inl x3)] [] S 0 := by
  refine ab_aload_n' hG 0 _ _ _ _ 1 _ dX2_isChildNowAsIn_0 rfl ?_
  refine ab_gR hG 1 _ _ _ _ 62 4 2 t1 (7, t1) dX2_isChildNowAsIn_1 (List.Mem.head _) rfl ?_
  refine ab_iload_n' hG 4 _ _ _ _ 2 _ dX2_isChildNowAsIn_4 rfl ?_
  refine ab_iaload' hG 5 _ _ _ _ 7 t1 24 _ dX2_isChildNowAsIn_5 rfl h.1 ?_
  have h := h.2
  refine ab_iload_n' hG 6 _ _ _ _ 3 _ dX2_isChildNowAsIn_6 rfl ?_
  refine ab_icmp_ne' hG 7 _ _ _ _ (20) 27 _ _ dX2_isChildNowAsIn_7 (by decide) (fun hc => ?_) (fun hc => ?_)
  · have h := h.2 hc
    refine ab_iconst' hG 27 _ _ _ _ 0 0 dX2_isChildNowAsIn_27 (by decide) ?_
    exact ab_ireturn' hG 28 _ _ _ _ dX2_isChildNowAsIn_28 (Or.inr ⟨rfl, Or.inl rfl⟩) (by decide) h
  · have h := h.1 hc
    refine ab_aload_n' hG 10 _ _ _ _ 0 _ dX2_isChildNowAsIn_10 rfl ?_
    refine ab_gR hG 11 _ _ _ _ 12 2 0 0 (4, 13) dX2_isChildNowAsIn_11 (List.Mem.tail _ (List.Mem.head _)) rfl ?_
    refine ab_gR hG 14 _ _ _ _ 62 4 2 13 (7, 13) dX2_isChildNowAsIn_14 (List.Mem.head _) rfl ?_
    refine ab_iload_n' hG 17 _ _ _ _ 2 _ dX2_isChildNowAsIn_17 rfl ?_
    refine ab_iaload' hG 18 _ _ _ _ 7 13 24 _ dX2_isChildNowAsIn_18 rfl h.1 ?_
    have h := h.2
    refine ab_iload_n' hG 19 _ _ _ _ 3 _ dX2_isChildNowAsIn_19 rfl ?_
    refine ab_icmp_ne' hG 20 _ _ _ _ (7) 27 _ _ dX2_isChildNowAsIn_20 (by decide) (fun hc => ?_) (fun hc => ?_)
    · have h := h.2 hc
      refine ab_iconst' hG 27 _ _ _ _ 0 0 dX2_isChildNowAsIn_27 (by decide) ?_
      exact ab_ireturn' hG 28 _ _ _ _ dX2_isChildNowAsIn_28 (Or.inr ⟨rfl, Or.inl rfl⟩) (by decide) h
    · have h := h.1 hc
      refine ab_iconst' hG 23 _ _ _ _ 1 1 dX2_isChildNowAsIn_23 (by decide) ?_
      refine ab_goto' hG 24 _ _ _ _ (4) 28 dX2_isChildNowAsIn_24 (by decide) ?_
      exact ab_ireturn' hG 28 _ _ _ _ dX2_isChildNowAsIn_28 (Or.inr ⟨rfl, Or.inr rfl⟩) (by decide) h
theorem bl_X2_arrangeChildren_0 {Q : ab_Po} {G : ab_Gt} (hG : ab_Cl M_X2_arrangeChildren Q G) (x1 : Int32) (t2 : Nat) (t3 : Nat) (S : ab_S) (h : vp_in x1 24 ∧ G 19 [some (.inr (2, 0)), some (.inl x1), some (.inr (4, t2)), some (.inr (4, t3)), some (.inl (S 5 13 x1.toNatClampNeg)), some (.inl (x1 + (1 : Int32))), some (.inl (0 : Int32)), none] [] S 0) : G 0 [some (.inr (2, 0)), some (.inl x1), some (.inr (4, t2)), some (.inr (4, t3)), none, none, none, none] [] S 0 := by
  refine ab_aload_n' hG 0 _ _ _ _ 0 _ dX2_arrangeChildren_0 rfl ?_
  refine ab_gR hG 1 _ _ _ _ 12 2 0 0 (4, 13) dX2_arrangeChildren_1 (List.Mem.head _) rfl ?_
  refine ab_gR hG 4 _ _ _ _ 78 4 0 13 (5, 13) dX2_arrangeChildren_4 (List.Mem.tail _ (List.Mem.head _)) rfl ?_
  refine ab_iload_n' hG 7 _ _ _ _ 1 _ dX2_arrangeChildren_7 rfl ?_
  refine ab_iaload' hG 8 _ _ _ _ 5 13 24 _ dX2_arrangeChildren_8 rfl h.1 ?_
  have h := h.2
  refine ab_istore' hG 9 _ _ _ _ 4 _ dX2_arrangeChildren_9 (Nat.le_of_ble_eq_true rfl) ?_
  refine ab_iload_n' hG 11 _ _ _ _ 1 _ dX2_arrangeChildren_11 rfl ?_
  refine ab_iconst' hG 12 _ _ _ _ 1 1 dX2_arrangeChildren_12 (by decide) ?_
  refine ab_iadd' hG 13 _ _ _ _ _ _ dX2_arrangeChildren_13 ?_
  refine ab_istore' hG 14 _ _ _ _ 5 _ dX2_arrangeChildren_14 (Nat.le_of_ble_eq_true rfl) ?_
  refine ab_iconst' hG 16 _ _ _ _ 0 0 dX2_arrangeChildren_16 (by decide) ?_
  refine ab_istore' hG 17 _ _ _ _ 6 _ dX2_arrangeChildren_17 (Nat.le_of_ble_eq_true rfl) ?_
  exact h
theorem bl_X2_arrangeChildren_19 {Q : ab_Po} {G : ab_Gt} (hG : ab_Cl M_X2_arrangeChildren Q G) (x1 : Int32) (t2 : Nat) (t3 : Nat) (x4 : Int32) (x5 : Int32) (x6 : Int32) (S : ab_S) (h : ((S 4 t2 4) ≤ x6 → G 77 [some (.inr (2, 0)), some (.inl x1), some (.inr (4, t2)), some (.inr (4, t3)), some (.inl x4), some (.inl (x1 + (1 : Int32))), some (.inl (0 : Int32)), none] [] S 0) ∧ (¬ (S 4 t2 4) ≤ x6 → vp_in x6 24 ∧ Sp_X2_isChildNowAsIn [(.inr (2, 0)), (.inr (4, t2)), (.inl (S 5 t2 x6.toNatClampNeg)), (.inl x4)] S (ab_back Q G 46 [some (.inr (2, 0)), some (.inl x1), some (.inr (4, t2)), some (.inr (4, t3)), some (.inl x4), some (.inl x5), some (.inl x6), some (.inl (S 5 t2 x6.toNatClampNeg))] [] 0))) : G 19 [some (.inr (2, 0)), some (.inl x1), some (.inr (4, t2)), some (.inr (4, t3)), some (.inl x4), some (.inl x5), some (.inl x6), none] [] S 0 := by
  refine ab_iload' hG 19 _ _ _ _ 6 _ dX2_arrangeChildren_19 rfl ?_
  refine ab_aload_n' hG 21 _ _ _ _ 2 _ dX2_arrangeChildren_21 rfl ?_
  refine ab_gI hG 22 _ _ _ _ 71 4 4 t2 dX2_arrangeChildren_22 (List.Mem.tail _ (List.Mem.tail _ (List.Mem.head _))) rfl ?_
  refine ab_icmp_ge' hG 25 _ _ _ _ (44) 69 _ _ dX2_arrangeChildren_25 (by decide) (fun hc => ?_) (fun hc => ?_)
  · have h := h.1 hc
    refine ab_iload_n' hG 69 _ _ _ _ 1 _ dX2_arrangeChildren_69 rfl ?_
    refine ab_iconst' hG 70 _ _ _ _ 1 1 dX2_arrangeChildren_70 (by decide) ?_
    refine ab_iadd' hG 71 _ _ _ _ _ _ dX2_arrangeChildren_71 ?_
    refine ab_istore' hG 72 _ _ _ _ 5 _ dX2_arrangeChildren_72 (Nat.le_of_ble_eq_true rfl) ?_
    refine ab_iconst' hG 74 _ _ _ _ 0 0 dX2_arrangeChildren_74 (by decide) ?_
    refine ab_istore' hG 75 _ _ _ _ 6 _ dX2_arrangeChildren_75 (Nat.le_of_ble_eq_true rfl) ?_
    exact h
  · have h := h.2 hc
    refine ab_aload_n' hG 28 _ _ _ _ 2 _ dX2_arrangeChildren_28 rfl ?_
    refine ab_gR hG 29 _ _ _ _ 78 4 0 t2 (5, t2) dX2_arrangeChildren_29 (List.Mem.tail _ (List.Mem.head _)) rfl ?_
    refine ab_iload' hG 32 _ _ _ _ 6 _ dX2_arrangeChildren_32 rfl ?_
    refine ab_iaload' hG 34 _ _ _ _ 5 t2 24 _ dX2_arrangeChildren_34 rfl h.1 ?_
    have h := h.2
    refine ab_istore' hG 35 _ _ _ _ 7 _ dX2_arrangeChildren_35 (Nat.le_of_ble_eq_true rfl) ?_
    refine ab_aload_n' hG 37 _ _ _ _ 0 _ dX2_arrangeChildren_37 rfl ?_
    refine ab_aload_n' hG 38 _ _ _ _ 2 _ dX2_arrangeChildren_38 rfl ?_
    refine ab_iload' hG 39 _ _ _ _ 7 _ dX2_arrangeChildren_39 rfl ?_
    refine ab_iload' hG 41 _ _ _ _ 4 _ dX2_arrangeChildren_41 rfl ?_
    exact ab_invv' hG 43 _ [_, _, _] _ _ 0 81 _ 3 1 0 _ (2, _) dX2_arrangeChildren_43 rfl rfl rfl rfl (Nat.le_of_ble_eq_true rfl) (Nat.le_of_ble_eq_true rfl) h
theorem bl_X2_arrangeChildren_46 {Q : ab_Po} {G : ab_Gt} (hG : ab_Cl M_X2_arrangeChildren Q G) (x1 : Int32) (t2 : Nat) (t3 : Nat) (x4 : Int32) (x5 : Int32) (x6 : Int32) (x7 : Int32) (xs0 : Int32) (S : ab_S) (h : (xs0 = 0 → G 19 [some (.inr (2, 0)), some (.inl x1), some (.inr (4, t2)), some (.inr (4, t3)), some (.inl x4), some (.inl x5), some (.inl (x6 + 1)), none] [] S 0) ∧ (¬ xs0 = 0 → Sp_X4_putInto [(.inr (4, 13)), (.inl x5), (.inl x7)] S (ab_back Q G 60 [some (.inr (2, 0)), some (.inl x1), some (.inr (4, t2)), some (.inr (4, t3)), some (.inl x4), some (.inl x5), some (.inl x6), some (.inl x7)] [] 0))) : G 46 [some (.inr (2, 0)), some (.inl x1), some (.inr (4, t2)), some (.inr (4, t3)), some (.inl x4), some (.inl x5), some (.inl x6), some (.inl x7)] [(.inl xs0)] S 0 := by
  refine ab_if_eq' hG 46 _ _ _ _ (17) 63 _ dX2_arrangeChildren_46 (by decide) (fun hc => ?_) (fun hc => ?_)
  · have h := h.1 hc
    refine ab_iinc' hG 63 _ _ _ _ 6 1 _ _ dX2_arrangeChildren_63 rfl rfl ?_
    refine ab_goto' hG 66 _ _ _ _ (-47) 19 dX2_arrangeChildren_66 (by decide) ?_
    refine ab_forget' hG _ _ _ _ _ 7 ?_
    exact h
  · have h := h.2 hc
    refine ab_aload_n' hG 49 _ _ _ _ 0 _ dX2_arrangeChildren_49 rfl ?_
    refine ab_gR hG 50 _ _ _ _ 12 2 0 0 (4, 13) dX2_arrangeChildren_50 (List.Mem.head _) rfl ?_
    refine ab_iload' hG 53 _ _ _ _ 5 _ dX2_arrangeChildren_53 rfl ?_
    refine ab_iload' hG 55 _ _ _ _ 7 _ dX2_arrangeChildren_55 rfl ?_
    exact ab_invv' hG 57 _ [_, _] _ _ 0 68 _ 2 0 0 _ (4, _) dX2_arrangeChildren_57 rfl rfl rfl rfl (Nat.le_of_ble_eq_true rfl) (Nat.le_of_ble_eq_true rfl) h
theorem bl_X2_arrangeChildren_60 {Q : ab_Po} {G : ab_Gt} (hG : ab_Cl M_X2_arrangeChildren Q G) (x1 : Int32) (t2 : Nat) (t3 : Nat) (x4 : Int32) (x5 : Int32) (x6 : Int32) (x7 : Int32) (S : ab_S) (h : G 19 [some (.inr (2, 0)), some (.inl x1), some (.inr (4, t2)), some (.inr (4, t3)), some (.inl x4), some (.inl (x5 + 1)), some (.inl (x6 + 1)), none] [] S 0) : G 60 [some (.inr (2, 0)), some (.inl x1), some (.inr (4, t2)), some (.inr (4, t3)), some (.inl x4), some (.inl x5), some (.inl x6), some (.inl x7)] [] S 0 := by
  refine ab_iinc' hG 60 _ _ _ _ 5 1 _ _ dX2_arrangeChildren_60 rfl rfl ?_
  refine ab_iinc' hG 63 _ _ _ _ 6 1 _ _ dX2_arrangeChildren_63 rfl rfl ?_
  refine ab_goto' hG 66 _ _ _ _ (-47) 19 dX2_arrangeChildren_66 (by decide) ?_
  refine ab_forget' hG _ _ _ _ _ 7 ?_
  exact h
theorem bl_X2_arrangeChildren_77 {Q : ab_Po} {G : ab_Gt} (hG : ab_Cl M_X2_arrangeChildren Q G) (x1 : Int32) (t2 : Nat) (t3 : Nat) (x4 : Int32) (x5 : Int32) (x6 : Int32) (S : ab_S) (h : ((S 4 t3 4) ≤ x6 → Q (.inl none) S) ∧ (¬ (S 4 t3 4) ≤ x6 → vp_in x6 24 ∧ Sp_X2_isChildNowAsIn [(.inr (2, 0)), (.inr (4, t3)), (.inl (S 5 t3 x6.toNatClampNeg)), (.inl x4)] S (ab_back Q G 104 [some (.inr (2, 0)), some (.inl x1), some (.inr (4, t2)), some (.inr (4, t3)), some (.inl x4), some (.inl x5), some (.inl x6), some (.inl (S 5 t3 x6.toNatClampNeg))] [] 0))) : G 77 [some (.inr (2, 0)), some (.inl x1), some (.inr (4, t2)), some (.inr (4, t3)), some (.inl x4), some (.inl x5), some (.inl x6), none] [] S 0 := by
  refine ab_iload' hG 77 _ _ _ _ 6 _ dX2_arrangeChildren_77 rfl ?_
  refine ab_aload_n' hG 79 _ _ _ _ 3 _ dX2_arrangeChildren_79 rfl ?_
  refine ab_gI hG 80 _ _ _ _ 71 4 4 t3 dX2_arrangeChildren_80 (List.Mem.tail _ (List.Mem.tail _ (List.Mem.head _))) rfl ?_
  refine ab_icmp_ge' hG 83 _ _ _ _ (67) 150 _ _ dX2_arrangeChildren_83 (by decide) (fun hc => ?_) (fun hc => ?_)
  · have h := h.1 hc
    exact ab_return_' hG 150 _ _ _ dX2_arrangeChildren_150 rfl (by decide) h
  · have h := h.2 hc
    refine ab_aload_n' hG 86 _ _ _ _ 3 _ dX2_arrangeChildren_86 rfl ?_
    refine ab_gR hG 87 _ _ _ _ 78 4 0 t3 (5, t3) dX2_arrangeChildren_87 (List.Mem.tail _ (List.Mem.head _)) rfl ?_
    refine ab_iload' hG 90 _ _ _ _ 6 _ dX2_arrangeChildren_90 rfl ?_
    refine ab_iaload' hG 92 _ _ _ _ 5 t3 24 _ dX2_arrangeChildren_92 rfl h.1 ?_
    have h := h.2
    refine ab_istore' hG 93 _ _ _ _ 7 _ dX2_arrangeChildren_93 (Nat.le_of_ble_eq_true rfl) ?_
    refine ab_aload_n' hG 95 _ _ _ _ 0 _ dX2_arrangeChildren_95 rfl ?_
    refine ab_aload_n' hG 96 _ _ _ _ 3 _ dX2_arrangeChildren_96 rfl ?_
    refine ab_iload' hG 97 _ _ _ _ 7 _ dX2_arrangeChildren_97 rfl ?_
    refine ab_iload' hG 99 _ _ _ _ 4 _ dX2_arrangeChildren_99 rfl ?_
    exact ab_invv' hG 101 _ [_, _, _] _ _ 0 81 _ 3 1 0 _ (2, _) dX2_arrangeChildren_101 rfl rfl rfl rfl (Nat.le_of_ble_eq_true rfl) (Nat.le_of_ble_eq_true rfl) h
theorem bl_X2_arrangeChildren_104 {Q : ab_Po} {G : ab_Gt} (hG : ab_Cl M_X2_arrangeChildren Q G) (x1 : Int32) (t2 : Nat) (t3 : Nat) (x4 : Int32) (x5 : Int32) (x6 : Int32) (x7 : Int32) (xs0 : Int32) (S : ab_S) (h : (xs0 = 0 → G 77 [some (.inr (2, 0)), some (.inl x1), some (.inr (4, t2)), some (.inr (4, t3)), some (.inl x4), some (.inl x5), some (.inl (x6 + 1)), none] [] S 0) ∧ (¬ xs0 = 0 → Sp_X2_isChildNowAsIn [(.inr (2, 0)), (.inr (4, t2)), (.inl x7), (.inl x4)] S (ab_back Q G 116 [some (.inr (2, 0)), some (.inl x1), some (.inr (4, t2)), some (.inr (4, t3)), some (.inl x4), some (.inl x5), some (.inl x6), some (.inl x7)] [] 0))) : G 104 [some (.inr (2, 0)), some (.inl x1), some (.inr (4, t2)), some (.inr (4, t3)), some (.inl x4), some (.inl x5), some (.inl x6), some (.inl x7)] [(.inl xs0)] S 0 := by
  refine ab_if_eq' hG 104 _ _ _ _ (40) 144 _ dX2_arrangeChildren_104 (by decide) (fun hc => ?_) (fun hc => ?_)
  · have h := h.1 hc
    refine ab_iinc' hG 144 _ _ _ _ 6 1 _ _ dX2_arrangeChildren_144 rfl rfl ?_
    refine ab_goto' hG 147 _ _ _ _ (-70) 77 dX2_arrangeChildren_147 (by decide) ?_
    refine ab_forget' hG _ _ _ _ _ 7 ?_
    exact h
  · have h := h.2 hc
    refine ab_aload_n' hG 107 _ _ _ _ 0 _ dX2_arrangeChildren_107 rfl ?_
    refine ab_aload_n' hG 108 _ _ _ _ 2 _ dX2_arrangeChildren_108 rfl ?_
    refine ab_iload' hG 109 _ _ _ _ 7 _ dX2_arrangeChildren_109 rfl ?_
    refine ab_iload' hG 111 _ _ _ _ 4 _ dX2_arrangeChildren_111 rfl ?_
    exact ab_invv' hG 113 _ [_, _, _] _ _ 0 81 _ 3 1 0 _ (2, _) dX2_arrangeChildren_113 rfl rfl rfl rfl (Nat.le_of_ble_eq_true rfl) (Nat.le_of_ble_eq_true rfl) h
theorem bl_X2_arrangeChildren_116 {Q : ab_Po} {G : ab_Gt} (hG : ab_Cl M_X2_arrangeChildren Q G) (x1 : Int32) (t2 : Nat) (t3 : Nat) (x4 : Int32) (x5 : Int32) (x6 : Int32) (x7 : Int32) (xs0 : Int32) (S : ab_S) (h : (xs0 = 0 → Sp_X4_putInto [(.inr (4, 13)), (.inl x5), (.inl x7)] S (ab_back Q G 130 [some (.inr (2, 0)), some (.inl x1), some (.inr (4, t2)), some (.inr (4, t3)), some (.inl x4), some (.inl x5), some (.inl x6), some (.inl x7)] [] 0)) ∧ (¬ xs0 = 0 → vp_in x7 24 ∧ G 77 [some (.inr (2, 0)), some (.inl x1), some (.inr (4, t2)), some (.inr (4, t3)), some (.inl x4), some (.inl ((S 6 13 x7.toNatClampNeg) + (1 : Int32))), some (.inl (x6 + 1)), none] [] S 0)) : G 116 [some (.inr (2, 0)), some (.inl x1), some (.inr (4, t2)), some (.inr (4, t3)), some (.inl x4), some (.inl x5), some (.inl x6), some (.inl x7)] [(.inl xs0)] S 0 := by
  refine ab_if_ne' hG 116 _ _ _ _ (14) 130 _ dX2_arrangeChildren_116 (by decide) (fun hc => ?_) (fun hc => ?_)
  · have h := h.2 hc
    refine ab_aload_n' hG 130 _ _ _ _ 0 _ dX2_arrangeChildren_130 rfl ?_
    refine ab_gR hG 131 _ _ _ _ 12 2 0 0 (4, 13) dX2_arrangeChildren_131 (List.Mem.head _) rfl ?_
    refine ab_gR hG 134 _ _ _ _ 85 4 1 13 (6, 13) dX2_arrangeChildren_134 (List.Mem.tail _ (List.Mem.tail _ (List.Mem.tail _ (List.Mem.head _)))) rfl ?_
    refine ab_iload' hG 137 _ _ _ _ 7 _ dX2_arrangeChildren_137 rfl ?_
    refine ab_iaload' hG 139 _ _ _ _ 6 13 24 _ dX2_arrangeChildren_139 rfl h.1 ?_
    have h := h.2
    refine ab_iconst' hG 140 _ _ _ _ 1 1 dX2_arrangeChildren_140 (by decide) ?_
    refine ab_iadd' hG 141 _ _ _ _ _ _ dX2_arrangeChildren_141 ?_
    refine ab_istore' hG 142 _ _ _ _ 5 _ dX2_arrangeChildren_142 (Nat.le_of_ble_eq_true rfl) ?_
    refine ab_iinc' hG 144 _ _ _ _ 6 1 _ _ dX2_arrangeChildren_144 rfl rfl ?_
    refine ab_goto' hG 147 _ _ _ _ (-70) 77 dX2_arrangeChildren_147 (by decide) ?_
    refine ab_forget' hG _ _ _ _ _ 7 ?_
    exact h
  · have h := h.1 hc
    refine ab_aload_n' hG 119 _ _ _ _ 0 _ dX2_arrangeChildren_119 rfl ?_
    refine ab_gR hG 120 _ _ _ _ 12 2 0 0 (4, 13) dX2_arrangeChildren_120 (List.Mem.head _) rfl ?_
    refine ab_iload' hG 123 _ _ _ _ 5 _ dX2_arrangeChildren_123 rfl ?_
    refine ab_iload' hG 125 _ _ _ _ 7 _ dX2_arrangeChildren_125 rfl ?_
    exact ab_invv' hG 127 _ [_, _] _ _ 0 68 _ 2 0 0 _ (4, _) dX2_arrangeChildren_127 rfl rfl rfl rfl (Nat.le_of_ble_eq_true rfl) (Nat.le_of_ble_eq_true rfl) h
theorem bl_X2_arrangeChildren_130 {Q : ab_Po} {G : ab_Gt} (hG : ab_Cl M_X2_arrangeChildren Q G) (x1 : Int32) (t2 : Nat) (t3 : Nat) (x4 : Int32) (x5 : Int32) (x6 : Int32) (x7 : Int32) (S : ab_S) (h : vp_in x7 24 ∧ G 77 [some (.inr (2, 0)), some (.inl x1), some (.inr (4, t2)), some (.inr (4, t3)), some (.inl x4), some (.inl ((S 6 13 x7.toNatClampNeg) + (1 : Int32))), some (.inl (x6 + 1)), none] [] S 0) : G 130 [some (.inr (2, 0)), some (.inl x1), some (.inr (4, t2)), some (.inr (4, t3)), some (.inl x4), some (.inl x5), some (.inl x6), some (.inl x7)] [] S 0 := by
  refine ab_aload_n' hG 130 _ _ _ _ 0 _ dX2_arrangeChildren_130 rfl ?_
  refine ab_gR hG 131 _ _ _ _ 12 2 0 0 (4, 13) dX2_arrangeChildren_131 (List.Mem.head _) rfl ?_
  refine ab_gR hG 134 _ _ _ _ 85 4 1 13 (6, 13) dX2_arrangeChildren_134 (List.Mem.tail _ (List.Mem.tail _ (List.Mem.tail _ (List.Mem.head _)))) rfl ?_
  refine ab_iload' hG 137 _ _ _ _ 7 _ dX2_arrangeChildren_137 rfl ?_
  refine ab_iaload' hG 139 _ _ _ _ 6 13 24 _ dX2_arrangeChildren_139 rfl h.1 ?_
  have h := h.2
  refine ab_iconst' hG 140 _ _ _ _ 1 1 dX2_arrangeChildren_140 (by decide) ?_
  refine ab_iadd' hG 141 _ _ _ _ _ _ dX2_arrangeChildren_141 ?_
  refine ab_istore' hG 142 _ _ _ _ 5 _ dX2_arrangeChildren_142 (Nat.le_of_ble_eq_true rfl) ?_
  refine ab_iinc' hG 144 _ _ _ _ 6 1 _ _ dX2_arrangeChildren_144 rfl rfl ?_
  refine ab_goto' hG 147 _ _ _ _ (-70) 77 dX2_arrangeChildren_147 (by decide) ?_
  refine ab_forget' hG _ _ _ _ _ 7 ?_
  exact h
theorem bl_X2_arrange_0 {Q : ab_Po} {G : ab_Gt} (hG : ab_Cl M_X2_arrange Q G) (t1 : Nat) (t2 : Nat) (S : ab_S) (h : Sp_X4_putInto [(.inr (4, 13)), (.inl (0 : Int32)), (.inl (0 : Int32))] S (ab_back Q G 9 [some (.inr (2, 0)), some (.inr (4, t1)), some (.inr (4, t2)), none] [] 0)) : G 0 [some (.inr (2, 0)), some (.inr (4, t1)), some (.inr (4, t2)), none] [] S 0 := by
  refine ab_aload_n' hG 0 _ _ _ _ 0 _ dX2_arrange_0 rfl ?_
  refine ab_gR hG 1 _ _ _ _ 12 2 0 0 (4, 13) dX2_arrange_1 (List.Mem.head _) rfl ?_
  refine ab_iconst' hG 4 _ _ _ _ 0 0 dX2_arrange_4 (by decide) ?_
  refine ab_iconst' hG 5 _ _ _ _ 0 0 dX2_arrange_5 (by decide) ?_
  exact ab_invv' hG 6 _ [_, _] _ _ 0 68 _ 2 0 0 _ (4, _) dX2_arrange_6 rfl rfl rfl rfl (Nat.le_of_ble_eq_true rfl) (Nat.le_of_ble_eq_true rfl) h
theorem bl_X2_arrange_9 {Q : ab_Po} {G : ab_Gt} (hG : ab_Cl M_X2_arrange Q G) (t1 : Nat) (t2 : Nat) (S : ab_S) (h : G 11 [some (.inr (2, 0)), some (.inr (4, t1)), some (.inr (4, t2)), some (.inl (0 : Int32))] [] S 0) : G 9 [some (.inr (2, 0)), some (.inr (4, t1)), some (.inr (4, t2)), none] [] S 0 := by
  refine ab_iconst' hG 9 _ _ _ _ 0 0 dX2_arrange_9 (by decide) ?_
  refine ab_istore_n' hG 10 _ _ _ _ 3 _ dX2_arrange_10 (Nat.le_of_ble_eq_true rfl) ?_
  exact h
theorem bl_X2_arrange_11 {Q : ab_Po} {G : ab_Gt} (hG : ab_Cl M_X2_arrange Q G) (t1 : Nat) (t2 : Nat) (x3 : Int32) (S : ab_S) (h : ((24 : Int32) ≤ x3 → Q (.inl none) S) ∧ (¬ (24 : Int32) ≤ x3 → ((S 4 13 4) ≤ x3 → Q (.inl none) S) ∧ (¬ (S 4 13 4) ≤ x3 → Sp_X2_arrangeChildren [(.inr (2, 0)), (.inl x3), (.inr (4, t1)), (.inr (4, t2))] S (ab_back Q G 35 [some (.inr (2, 0)), some (.inr (4, t1)), some (.inr (4, t2)), some (.inl x3)] [] 0)))) : G 11 [some (.inr (2, 0)), some (.inr (4, t1)), some (.inr (4, t2)), some (.inl x3)] [] S 0 := by
  refine ab_iload_n' hG 11 _ _ _ _ 3 _ dX2_arrange_11 rfl ?_
  refine ab_bipush' hG 12 _ _ _ _ 24 24 dX2_arrange_12 (by decide) ?_
  refine ab_icmp_ge' hG 14 _ _ _ _ (27) 41 _ _ dX2_arrange_14 (by decide) (fun hc => ?_) (fun hc => ?_)
  · have h := h.1 hc
    exact ab_return_' hG 41 _ _ _ dX2_arrange_41 rfl (by decide) h
  · have h := h.2 hc
    refine ab_iload_n' hG 17 _ _ _ _ 3 _ dX2_arrange_17 rfl ?_
    refine ab_aload_n' hG 18 _ _ _ _ 0 _ dX2_arrange_18 rfl ?_
    refine ab_gR hG 19 _ _ _ _ 12 2 0 0 (4, 13) dX2_arrange_19 (List.Mem.head _) rfl ?_
    refine ab_gI hG 22 _ _ _ _ 71 4 4 13 dX2_arrange_22 (List.Mem.tail _ (List.Mem.head _)) rfl ?_
    refine ab_icmp_ge' hG 25 _ _ _ _ (16) 41 _ _ dX2_arrange_25 (by decide) (fun hc => ?_) (fun hc => ?_)
    · have h := h.1 hc
      exact ab_return_' hG 41 _ _ _ dX2_arrange_41 rfl (by decide) h
    · have h := h.2 hc
      refine ab_aload_n' hG 28 _ _ _ _ 0 _ dX2_arrange_28 rfl ?_
      refine ab_iload_n' hG 29 _ _ _ _ 3 _ dX2_arrange_29 rfl ?_
      refine ab_aload_n' hG 30 _ _ _ _ 1 _ dX2_arrange_30 rfl ?_
      refine ab_aload_n' hG 31 _ _ _ _ 2 _ dX2_arrange_31 rfl ?_
      exact ab_invv' hG 32 _ [_, _, _] _ _ 0 74 _ 3 0 0 _ (2, _) dX2_arrange_32 rfl rfl rfl rfl (Nat.le_of_ble_eq_true rfl) (Nat.le_of_ble_eq_true rfl) h
theorem bl_X2_arrange_35 {Q : ab_Po} {G : ab_Gt} (hG : ab_Cl M_X2_arrange Q G) (t1 : Nat) (t2 : Nat) (x3 : Int32) (S : ab_S) (h : G 11 [some (.inr (2, 0)), some (.inr (4, t1)), some (.inr (4, t2)), some (.inl (x3 + 1))] [] S 0) : G 35 [some (.inr (2, 0)), some (.inr (4, t1)), some (.inr (4, t2)), some (.inl x3)] [] S 0 := by
  refine ab_iinc' hG 35 _ _ _ _ 3 1 _ _ dX2_arrange_35 rfl rfl ?_
  refine ab_goto' hG 38 _ _ _ _ (-27) 11 dX2_arrange_38 (by decide) ?_
  exact h
theorem bl_X2_run_0 {Q : ab_Po} {G : ab_Gt} (hG : ab_Cl M_X2_run Q G) (t1 : Nat) (t2 : Nat) (t3 : Nat) (S : ab_S) (h : (∀ S1 : ab_S, S1 = ab_su S 2 0 2 (0 : Int32) → Sp_X4_clear [(.inr (4, 13))] S1 (ab_back Q G 12 [some (.inr (2, 0)), some (.inr (4, t1)), some (.inr (4, t2)), some (.inr (4, t3)), none] [] 0))) : G 0 [some (.inr (2, 0)), some (.inr (4, t1)), some (.inr (4, t2)), some (.inr (4, t3)), none] [] S 0 := by
  refine ab_aload_n' hG 0 _ _ _ _ 0 _ dX2_run_0 rfl ?_
  refine ab_iconst' hG 1 _ _ _ _ 0 0 dX2_run_1 (by decide) ?_
  refine ab_putfield' hG 2 _ _ _ _ 22 2 2 0 _ dX2_run_2 (List.Mem.head _) ?_
  have h := h _ rfl
  refine ab_aload_n' hG 5 _ _ _ _ 0 _ dX2_run_5 rfl ?_
  refine ab_gR hG 6 _ _ _ _ 12 2 0 0 (4, 13) dX2_run_6 (List.Mem.head _) rfl ?_
  exact ab_invv' hG 9 _ [] _ _ 0 26 _ 0 0 0 _ (4, _) dX2_run_9 rfl rfl rfl rfl (Nat.le_of_ble_eq_true rfl) (Nat.le_of_ble_eq_true rfl) h
theorem bl_X2_run_12 {Q : ab_Po} {G : ab_Gt} (hG : ab_Cl M_X2_run Q G) (t1 : Nat) (t2 : Nat) (t3 : Nat) (S : ab_S) (h : G 15 [some (.inr (2, 0)), some (.inr (4, t1)), some (.inr (4, t2)), some (.inr (4, t3)), some (.inl (0 : Int32))] [] S 0) : G 12 [some (.inr (2, 0)), some (.inr (4, t1)), some (.inr (4, t2)), some (.inr (4, t3)), none] [] S 0 := by
  refine ab_iconst' hG 12 _ _ _ _ 0 0 dX2_run_12 (by decide) ?_
  refine ab_istore' hG 13 _ _ _ _ 4 _ dX2_run_13 (Nat.le_of_ble_eq_true rfl) ?_
  exact h
theorem bl_X2_run_15 {Q : ab_Po} {G : ab_Gt} (hG : ab_Cl M_X2_run Q G) (t1 : Nat) (t2 : Nat) (t3 : Nat) (x4 : Int32) (S : ab_S) (h : ((24 : Int32) ≤ x4 → ((S 2 0 2) = 0 → Sp_X2_nameThoseWithoutParent [(.inr (2, 0))] S (ab_back Q G 66 [some (.inr (2, 0)), some (.inr (4, t1)), some (.inr (4, t2)), some (.inr (4, t3)), some (.inl x4)] [] 0)) ∧ (¬ (S 2 0 2) = 0 → ((S 2 0 2) = 0 → Sp_X2_nameThoseCutOff [(.inr (2, 0))] S (ab_back Q G 77 [some (.inr (2, 0)), some (.inr (4, t1)), some (.inr (4, t2)), some (.inr (4, t3)), some (.inl x4)] [] 0)) ∧ (¬ (S 2 0 2) = 0 → ((S 2 0 2) = 0 → Sp_X2_arrange [(.inr (2, 0)), (.inr (4, t1)), (.inr (4, t2))] S (ab_back Q G 90 [some (.inr (2, 0)), some (.inr (4, t1)), some (.inr (4, t2)), some (.inr (4, t3)), some (.inl x4)] [] 0)) ∧ (¬ (S 2 0 2) = 0 → Q (.inl (some (S 2 0 2))) S)))) ∧ (¬ (24 : Int32) ≤ x4 → Sp_X4_holds [(.inr (4, t1)), (.inl x4)] S (ab_back Q G 28 [some (.inr (2, 0)), some (.inr (4, t1)), some (.inr (4, t2)), some (.inr (4, t3)), some (.inl x4)] [] 0))) : G 15 [some (.inr (2, 0)), some (.inr (4, t1)), some (.inr (4, t2)), some (.inr (4, t3)), some (.inl x4)] [] S 0 := by
  refine ab_iload' hG 15 _ _ _ _ 4 _ dX2_run_15 rfl ?_
  refine ab_bipush' hG 17 _ _ _ _ 24 24 dX2_run_17 (by decide) ?_
  refine ab_icmp_ge' hG 19 _ _ _ _ (36) 55 _ _ dX2_run_19 (by decide) (fun hc => ?_) (fun hc => ?_)
  · have h := h.1 hc
    refine ab_aload_n' hG 55 _ _ _ _ 0 _ dX2_run_55 rfl ?_
    refine ab_gI hG 56 _ _ _ _ 22 2 2 0 dX2_run_56 (List.Mem.tail _ (List.Mem.head _)) rfl ?_
    refine ab_if_ne' hG 59 _ _ _ _ (7) 66 _ dX2_run_59 (by decide) (fun hc => ?_) (fun hc => ?_)
    · have h := h.2 hc
      refine ab_aload_n' hG 66 _ _ _ _ 0 _ dX2_run_66 rfl ?_
      refine ab_gI hG 67 _ _ _ _ 22 2 2 0 dX2_run_67 (List.Mem.tail _ (List.Mem.head _)) rfl ?_
      refine ab_if_ne' hG 70 _ _ _ _ (7) 77 _ dX2_run_70 (by decide) (fun hc => ?_) (fun hc => ?_)
      · have h := h.2 hc
        refine ab_aload_n' hG 77 _ _ _ _ 0 _ dX2_run_77 rfl ?_
        refine ab_gI hG 78 _ _ _ _ 22 2 2 0 dX2_run_78 (List.Mem.tail _ (List.Mem.head _)) rfl ?_
        refine ab_if_ne' hG 81 _ _ _ _ (9) 90 _ dX2_run_81 (by decide) (fun hc => ?_) (fun hc => ?_)
        · have h := h.2 hc
          refine ab_aload_n' hG 90 _ _ _ _ 0 _ dX2_run_90 rfl ?_
          refine ab_gI hG 91 _ _ _ _ 22 2 2 0 dX2_run_91 (List.Mem.tail _ (List.Mem.head _)) rfl ?_
          exact ab_ireturn' hG 94 _ _ _ _ dX2_run_94 (Or.inl rfl) (by decide) h
        · have h := h.1 hc
          refine ab_aload_n' hG 84 _ _ _ _ 0 _ dX2_run_84 rfl ?_
          refine ab_aload_n' hG 85 _ _ _ _ 1 _ dX2_run_85 rfl ?_
          refine ab_aload_n' hG 86 _ _ _ _ 2 _ dX2_run_86 rfl ?_
          exact ab_invv' hG 87 _ [_, _] _ _ 0 43 _ 2 0 0 _ (2, _) dX2_run_87 rfl rfl rfl rfl (Nat.le_of_ble_eq_true rfl) (Nat.le_of_ble_eq_true rfl) h
      · have h := h.1 hc
        refine ab_aload_n' hG 73 _ _ _ _ 0 _ dX2_run_73 rfl ?_
        exact ab_invv' hG 74 _ [] _ _ 0 40 _ 0 0 0 _ (2, _) dX2_run_74 rfl rfl rfl rfl (Nat.le_of_ble_eq_true rfl) (Nat.le_of_ble_eq_true rfl) h
    · have h := h.1 hc
      refine ab_aload_n' hG 62 _ _ _ _ 0 _ dX2_run_62 rfl ?_
      exact ab_invv' hG 63 _ [] _ _ 0 37 _ 0 0 0 _ (2, _) dX2_run_63 rfl rfl rfl rfl (Nat.le_of_ble_eq_true rfl) (Nat.le_of_ble_eq_true rfl) h
  · have h := h.2 hc
    refine ab_aload_n' hG 22 _ _ _ _ 1 _ dX2_run_22 rfl ?_
    refine ab_iload' hG 23 _ _ _ _ 4 _ dX2_run_23 rfl ?_
    exact ab_invv' hG 25 _ [_] _ _ 0 29 _ 1 1 0 _ (4, _) dX2_run_25 rfl rfl rfl rfl (Nat.le_of_ble_eq_true rfl) (Nat.le_of_ble_eq_true rfl) h
theorem bl_X2_run_28 {Q : ab_Po} {G : ab_Gt} (hG : ab_Cl M_X2_run Q G) (t1 : Nat) (t2 : Nat) (t3 : Nat) (x4 : Int32) (xs0 : Int32) (S : ab_S) (h : (xs0 = 0 → Sp_X4_holds [(.inr (4, t2)), (.inl x4)] S (ab_back Q G 37 [some (.inr (2, 0)), some (.inr (4, t1)), some (.inr (4, t2)), some (.inr (4, t3)), some (.inl x4)] [] 0)) ∧ (¬ xs0 = 0 → Sp_X2_settle [(.inr (2, 0)), (.inl x4), (.inr (4, t1)), (.inr (4, t2)), (.inr (4, t3))] S (ab_back Q G 49 [some (.inr (2, 0)), some (.inr (4, t1)), some (.inr (4, t2)), some (.inr (4, t3)), some (.inl x4)] [] 0))) : G 28 [some (.inr (2, 0)), some (.inr (4, t1)), some (.inr (4, t2)), some (.inr (4, t3)), some (.inl x4)] [(.inl xs0)] S 0 := by
  refine ab_if_ne' hG 28 _ _ _ _ (12) 40 _ dX2_run_28 (by decide) (fun hc => ?_) (fun hc => ?_)
  · have h := h.2 hc
    refine ab_aload_n' hG 40 _ _ _ _ 0 _ dX2_run_40 rfl ?_
    refine ab_iload' hG 41 _ _ _ _ 4 _ dX2_run_41 rfl ?_
    refine ab_aload_n' hG 43 _ _ _ _ 1 _ dX2_run_43 rfl ?_
    refine ab_aload_n' hG 44 _ _ _ _ 2 _ dX2_run_44 rfl ?_
    refine ab_aload_n' hG 45 _ _ _ _ 3 _ dX2_run_45 rfl ?_
    exact ab_invv' hG 46 _ [_, _, _, _] _ _ 0 33 _ 4 0 0 _ (2, _) dX2_run_46 rfl rfl rfl rfl (Nat.le_of_ble_eq_true rfl) (Nat.le_of_ble_eq_true rfl) h
  · have h := h.1 hc
    refine ab_aload_n' hG 31 _ _ _ _ 2 _ dX2_run_31 rfl ?_
    refine ab_iload' hG 32 _ _ _ _ 4 _ dX2_run_32 rfl ?_
    exact ab_invv' hG 34 _ [_] _ _ 0 29 _ 1 1 0 _ (4, _) dX2_run_34 rfl rfl rfl rfl (Nat.le_of_ble_eq_true rfl) (Nat.le_of_ble_eq_true rfl) h
theorem bl_X2_run_37 {Q : ab_Po} {G : ab_Gt} (hG : ab_Cl M_X2_run Q G) (t1 : Nat) (t2 : Nat) (t3 : Nat) (x4 : Int32) (xs0 : Int32) (S : ab_S) (h : (xs0 = 0 → G 15 [some (.inr (2, 0)), some (.inr (4, t1)), some (.inr (4, t2)), some (.inr (4, t3)), some (.inl (x4 + 1))] [] S 0) ∧ (¬ xs0 = 0 → Sp_X2_settle [(.inr (2, 0)), (.inl x4), (.inr (4, t1)), (.inr (4, t2)), (.inr (4, t3))] S (ab_back Q G 49 [some (.inr (2, 0)), some (.inr (4, t1)), some (.inr (4, t2)), some (.inr (4, t3)), some (.inl x4)] [] 0))) : G 37 [some (.inr (2, 0)), some (.inr (4, t1)), some (.inr (4, t2)), some (.inr (4, t3)), some (.inl x4)] [(.inl xs0)] S 0 := by
  refine ab_if_eq' hG 37 _ _ _ _ (12) 49 _ dX2_run_37 (by decide) (fun hc => ?_) (fun hc => ?_)
  · have h := h.1 hc
    refine ab_iinc' hG 49 _ _ _ _ 4 1 _ _ dX2_run_49 rfl rfl ?_
    refine ab_goto' hG 52 _ _ _ _ (-37) 15 dX2_run_52 (by decide) ?_
    exact h
  · have h := h.2 hc
    refine ab_aload_n' hG 40 _ _ _ _ 0 _ dX2_run_40 rfl ?_
    refine ab_iload' hG 41 _ _ _ _ 4 _ dX2_run_41 rfl ?_
    refine ab_aload_n' hG 43 _ _ _ _ 1 _ dX2_run_43 rfl ?_
    refine ab_aload_n' hG 44 _ _ _ _ 2 _ dX2_run_44 rfl ?_
    refine ab_aload_n' hG 45 _ _ _ _ 3 _ dX2_run_45 rfl ?_
    exact ab_invv' hG 46 _ [_, _, _, _] _ _ 0 33 _ 4 0 0 _ (2, _) dX2_run_46 rfl rfl rfl rfl (Nat.le_of_ble_eq_true rfl) (Nat.le_of_ble_eq_true rfl) h
theorem bl_X2_run_49 {Q : ab_Po} {G : ab_Gt} (hG : ab_Cl M_X2_run Q G) (t1 : Nat) (t2 : Nat) (t3 : Nat) (x4 : Int32) (S : ab_S) (h : G 15 [some (.inr (2, 0)), some (.inr (4, t1)), some (.inr (4, t2)), some (.inr (4, t3)), some (.inl (x4 + 1))] [] S 0) : G 49 [some (.inr (2, 0)), some (.inr (4, t1)), some (.inr (4, t2)), some (.inr (4, t3)), some (.inl x4)] [] S 0 := by
  refine ab_iinc' hG 49 _ _ _ _ 4 1 _ _ dX2_run_49 rfl rfl ?_
  refine ab_goto' hG 52 _ _ _ _ (-37) 15 dX2_run_52 (by decide) ?_
  exact h
theorem bl_X2_run_66 {Q : ab_Po} {G : ab_Gt} (hG : ab_Cl M_X2_run Q G) (t1 : Nat) (t2 : Nat) (t3 : Nat) (x4 : Int32) (S : ab_S) (h : ((S 2 0 2) = 0 → Sp_X2_nameThoseCutOff [(.inr (2, 0))] S (ab_back Q G 77 [some (.inr (2, 0)), some (.inr (4, t1)), some (.inr (4, t2)), some (.inr (4, t3)), some (.inl x4)] [] 0)) ∧ (¬ (S 2 0 2) = 0 → ((S 2 0 2) = 0 → Sp_X2_arrange [(.inr (2, 0)), (.inr (4, t1)), (.inr (4, t2))] S (ab_back Q G 90 [some (.inr (2, 0)), some (.inr (4, t1)), some (.inr (4, t2)), some (.inr (4, t3)), some (.inl x4)] [] 0)) ∧ (¬ (S 2 0 2) = 0 → Q (.inl (some (S 2 0 2))) S))) : G 66 [some (.inr (2, 0)), some (.inr (4, t1)), some (.inr (4, t2)), some (.inr (4, t3)), some (.inl x4)] [] S 0 := by
  refine ab_aload_n' hG 66 _ _ _ _ 0 _ dX2_run_66 rfl ?_
  refine ab_gI hG 67 _ _ _ _ 22 2 2 0 dX2_run_67 (List.Mem.tail _ (List.Mem.head _)) rfl ?_
  refine ab_if_ne' hG 70 _ _ _ _ (7) 77 _ dX2_run_70 (by decide) (fun hc => ?_) (fun hc => ?_)
  · have h := h.2 hc
    refine ab_aload_n' hG 77 _ _ _ _ 0 _ dX2_run_77 rfl ?_
    refine ab_gI hG 78 _ _ _ _ 22 2 2 0 dX2_run_78 (List.Mem.tail _ (List.Mem.head _)) rfl ?_
    refine ab_if_ne' hG 81 _ _ _ _ (9) 90 _ dX2_run_81 (by decide) (fun hc => ?_) (fun hc => ?_)
    · have h := h.2 hc
      refine ab_aload_n' hG 90 _ _ _ _ 0 _ dX2_run_90 rfl ?_
      refine ab_gI hG 91 _ _ _ _ 22 2 2 0 dX2_run_91 (List.Mem.tail _ (List.Mem.head _)) rfl ?_
      exact ab_ireturn' hG 94 _ _ _ _ dX2_run_94 (Or.inl rfl) (by decide) h
    · have h := h.1 hc
      refine ab_aload_n' hG 84 _ _ _ _ 0 _ dX2_run_84 rfl ?_
      refine ab_aload_n' hG 85 _ _ _ _ 1 _ dX2_run_85 rfl ?_
      refine ab_aload_n' hG 86 _ _ _ _ 2 _ dX2_run_86 rfl ?_
      exact ab_invv' hG 87 _ [_, _] _ _ 0 43 _ 2 0 0 _ (2, _) dX2_run_87 rfl rfl rfl rfl (Nat.le_of_ble_eq_true rfl) (Nat.le_of_ble_eq_true rfl) h
  · have h := h.1 hc
    refine ab_aload_n' hG 73 _ _ _ _ 0 _ dX2_run_73 rfl ?_
    exact ab_invv' hG 74 _ [] _ _ 0 40 _ 0 0 0 _ (2, _) dX2_run_74 rfl rfl rfl rfl (Nat.le_of_ble_eq_true rfl) (Nat.le_of_ble_eq_true rfl) h
theorem bl_X2_run_77 {Q : ab_Po} {G : ab_Gt} (hG : ab_Cl M_X2_run Q G) (t1 : Nat) (t2 : Nat) (t3 : Nat) (x4 : Int32) (S : ab_S) (h : ((S 2 0 2) = 0 → Sp_X2_arrange [(.inr (2, 0)), (.inr (4, t1)), (.inr (4, t2))] S (ab_back Q G 90 [some (.inr (2, 0)), some (.inr (4, t1)), some (.inr (4, t2)), some (.inr (4, t3)), some (.inl x4)] [] 0)) ∧ (¬ (S 2 0 2) = 0 → Q (.inl (some (S 2 0 2))) S)) : G 77 [some (.inr (2, 0)), some (.inr (4, t1)), some (.inr (4, t2)), some (.inr (4, t3)), some (.inl x4)] [] S 0 := by
  refine ab_aload_n' hG 77 _ _ _ _ 0 _ dX2_run_77 rfl ?_
  refine ab_gI hG 78 _ _ _ _ 22 2 2 0 dX2_run_78 (List.Mem.tail _ (List.Mem.head _)) rfl ?_
  refine ab_if_ne' hG 81 _ _ _ _ (9) 90 _ dX2_run_81 (by decide) (fun hc => ?_) (fun hc => ?_)
  · have h := h.2 hc
    refine ab_aload_n' hG 90 _ _ _ _ 0 _ dX2_run_90 rfl ?_
    refine ab_gI hG 91 _ _ _ _ 22 2 2 0 dX2_run_91 (List.Mem.tail _ (List.Mem.head _)) rfl ?_
    exact ab_ireturn' hG 94 _ _ _ _ dX2_run_94 (Or.inl rfl) (by decide) h
  · have h := h.1 hc
    refine ab_aload_n' hG 84 _ _ _ _ 0 _ dX2_run_84 rfl ?_
    refine ab_aload_n' hG 85 _ _ _ _ 1 _ dX2_run_85 rfl ?_
    refine ab_aload_n' hG 86 _ _ _ _ 2 _ dX2_run_86 rfl ?_
    exact ab_invv' hG 87 _ [_, _] _ _ 0 43 _ 2 0 0 _ (2, _) dX2_run_87 rfl rfl rfl rfl (Nat.le_of_ble_eq_true rfl) (Nat.le_of_ble_eq_true rfl) h
theorem bl_X2_run_90 {Q : ab_Po} {G : ab_Gt} (hG : ab_Cl M_X2_run Q G) (t1 : Nat) (t2 : Nat) (t3 : Nat) (x4 : Int32) (S : ab_S) (h : Q (.inl (some (S 2 0 2))) S) : G 90 [some (.inr (2, 0)), some (.inr (4, t1)), some (.inr (4, t2)), some (.inr (4, t3)), some (.inl x4)] [] S 0 := by
  refine ab_aload_n' hG 90 _ _ _ _ 0 _ dX2_run_90 rfl ?_
  refine ab_gI hG 91 _ _ _ _ 22 2 2 0 dX2_run_91 (List.Mem.tail _ (List.Mem.head _)) rfl ?_
  exact ab_ireturn' hG 94 _ _ _ _ dX2_run_94 (Or.inl rfl) (by decide) h
theorem bl_X3_childrenOf_0 {Q : ab_Po} {G : ab_Gt} (hG : ab_Cl M_X3_childrenOf Q G) (x0 : Int32) (t1 : Nat) (S : ab_S) (h : G 4 [some (.inl x0), some (.inr (4, t1)), some (.inl (0 : Int32)), some (.inl (1 : Int32)), none] [] S 0) : G 0 [some (.inl x0), some (.inr (4, t1)), none, none, none] [] S 0 := by
  refine ab_iconst' hG 0 _ _ _ _ 0 0 dX3_childrenOf_0 (by decide) ?_
  refine ab_istore_n' hG 1 _ _ _ _ 2 _ dX3_childrenOf_1 (Nat.le_of_ble_eq_true rfl) ?_
  refine ab_iconst' hG 2 _ _ _ _ 1 1 dX3_childrenOf_2 (by decide) ?_
  refine ab_istore_n' hG 3 _ _ _ _ 3 _ dX3_childrenOf_3 (Nat.le_of_ble_eq_true rfl) ?_
  exact h
theorem bl_X3_childrenOf_4 {Q : ab_Po} {G : ab_Gt} (hG : ab_Cl M_X3_childrenOf Q G) (x0 : Int32) (t1 : Nat) (x2 : Int32) (x3 : Int32) (S : ab_S) (h : ((S 4 t1 4) ≤ x3 → Q (.inl (some x2)) S) ∧ (¬ (S 4 t1 4) ≤ x3 → vp_in x3 24 ∧ vp_in (S 5 t1 x3.toNatClampNeg) 24 ∧ Sp_X5_isIn [(.inl x0), (.inl (S 7 t1 (S 5 t1 x3.toNatClampNeg).toNatClampNeg))] S (ab_back (fun _ _ => False) G 31 [some (.inl x0), some (.inr (4, t1)), some (.inl x2), some (.inl x3), some (.inl (S 5 t1 x3.toNatClampNeg))] [] 0))) : G 4 [some (.inl x0), some (.inr (4, t1)), some (.inl x2), some (.inl x3), none] [] S 0 := by
  refine ab_iload_n' hG 4 _ _ _ _ 3 _ dX3_childrenOf_4 rfl ?_
  refine ab_aload_n' hG 5 _ _ _ _ 1 _ dX3_childrenOf_5 rfl ?_
  refine ab_gI hG 6 _ _ _ _ 28 4 4 t1 dX3_childrenOf_6 (List.Mem.head _) rfl ?_
  refine ab_icmp_ge' hG 9 _ _ _ _ (38) 47 _ _ dX3_childrenOf_9 (by decide) (fun hc => ?_) (fun hc => ?_)
  · have h := h.1 hc
    refine ab_iload_n' hG 47 _ _ _ _ 2 _ dX3_childrenOf_47 rfl ?_
    exact ab_ireturn' hG 48 _ _ _ _ dX3_childrenOf_48 (Or.inl rfl) (by decide) h
  · have h := h.2 hc
    refine ab_aload_n' hG 12 _ _ _ _ 1 _ dX3_childrenOf_12 rfl ?_
    refine ab_gR hG 13 _ _ _ _ 34 4 0 t1 (5, t1) dX3_childrenOf_13 (List.Mem.tail _ (List.Mem.head _)) rfl ?_
    refine ab_iload_n' hG 16 _ _ _ _ 3 _ dX3_childrenOf_16 rfl ?_
    refine ab_iaload' hG 17 _ _ _ _ 5 t1 24 _ dX3_childrenOf_17 rfl h.1 ?_
    have h := h.2
    refine ab_istore' hG 18 _ _ _ _ 4 _ dX3_childrenOf_18 (Nat.le_of_ble_eq_true rfl) ?_
    refine ab_iload_n' hG 20 _ _ _ _ 0 _ dX3_childrenOf_20 rfl ?_
    refine ab_aload_n' hG 21 _ _ _ _ 1 _ dX3_childrenOf_21 rfl ?_
    refine ab_gR hG 22 _ _ _ _ 38 4 2 t1 (7, t1) dX3_childrenOf_22 (List.Mem.tail _ (List.Mem.tail _ (List.Mem.head _))) rfl ?_
    refine ab_iload' hG 25 _ _ _ _ 4 _ dX3_childrenOf_25 rfl ?_
    refine ab_iaload' hG 27 _ _ _ _ 7 t1 24 _ dX3_childrenOf_27 rfl h.1 ?_
    have h := h.2
    exact ab_invn' hG 28 _ [_, _] _ _ 0 41 _ 2 1 0 _ dX3_childrenOf_28 rfl rfl (Nat.le_of_ble_eq_true rfl) (Nat.le_of_ble_eq_true rfl) h
theorem bl_X3_childrenOf_31 {Q : ab_Po} {G : ab_Gt} (hG : ab_Cl M_X3_childrenOf Q G) (x0 : Int32) (t1 : Nat) (x2 : Int32) (x3 : Int32) (x4 : Int32) (xs0 : Int32) (S : ab_S) (h : (xs0 = 0 → G 4 [some (.inl x0), some (.inr (4, t1)), some (.inl x2), some (.inl (x3 + 1)), none] [] S 0) ∧ (¬ xs0 = 0 → G 4 [some (.inl x0), some (.inr (4, t1)), some (.inl (x2 ||| ((1 : Int32) <<< (x4 &&& 31)))), some (.inl (x3 + 1)), none] [] S 0)) : G 31 [some (.inl x0), some (.inr (4, t1)), some (.inl x2), some (.inl x3), some (.inl x4)] [(.inl xs0)] S 0 := by
  refine ab_if_eq' hG 31 _ _ _ _ (10) 41 _ dX3_childrenOf_31 (by decide) (fun hc => ?_) (fun hc => ?_)
  · have h := h.1 hc
    refine ab_iinc' hG 41 _ _ _ _ 3 1 _ _ dX3_childrenOf_41 rfl rfl ?_
    refine ab_goto' hG 44 _ _ _ _ (-40) 4 dX3_childrenOf_44 (by decide) ?_
    refine ab_forget' hG _ _ _ _ _ 4 ?_
    exact h
  · have h := h.2 hc
    refine ab_iload_n' hG 34 _ _ _ _ 2 _ dX3_childrenOf_34 rfl ?_
    refine ab_iconst' hG 35 _ _ _ _ 1 1 dX3_childrenOf_35 (by decide) ?_
    refine ab_iload' hG 36 _ _ _ _ 4 _ dX3_childrenOf_36 rfl ?_
    refine ab_ishl' hG 38 _ _ _ _ _ _ dX3_childrenOf_38 ?_
    refine ab_ior' hG 39 _ _ _ _ _ _ dX3_childrenOf_39 ?_
    refine ab_istore_n' hG 40 _ _ _ _ 2 _ dX3_childrenOf_40 (Nat.le_of_ble_eq_true rfl) ?_
    refine ab_iinc' hG 41 _ _ _ _ 3 1 _ _ dX3_childrenOf_41 rfl rfl ?_
    refine ab_goto' hG 44 _ _ _ _ (-40) 4 dX3_childrenOf_44 (by decide) ?_
    refine ab_forget' hG _ _ _ _ _ 4 ?_
    exact h
theorem bl_X3_below_0 {Q : ab_Po} {G : ab_Gt} (hG : ab_Cl M_X3_below Q G) (x0 : Int32) (t1 : Nat) (S : ab_S) (h : G 4 [some (.inl x0), some (.inr (4, t1)), some (.inl (0 : Int32)), some (.inl (1 : Int32)), none] [] S 0) : G 0 [some (.inl x0), some (.inr (4, t1)), none, none, none] [] S 0 := by
  refine ab_iconst' hG 0 _ _ _ _ 0 0 dX3_below_0 (by decide) ?_
  refine ab_istore_n' hG 1 _ _ _ _ 2 _ dX3_below_1 (Nat.le_of_ble_eq_true rfl) ?_
  refine ab_iconst' hG 2 _ _ _ _ 1 1 dX3_below_2 (by decide) ?_
  refine ab_istore_n' hG 3 _ _ _ _ 3 _ dX3_below_3 (Nat.le_of_ble_eq_true rfl) ?_
  exact h
theorem bl_X3_below_4 {Q : ab_Po} {G : ab_Gt} (hG : ab_Cl M_X3_below Q G) (x0 : Int32) (t1 : Nat) (x2 : Int32) (x3 : Int32) (S : ab_S) (h : ((S 4 t1 4) ≤ x3 → Q (.inl (some x2)) S) ∧ (¬ (S 4 t1 4) ≤ x3 → vp_in x3 24 ∧ vp_in (S 5 t1 x3.toNatClampNeg) 24 ∧ Sp_X5_isIn [(.inl (x0 ||| x2)), (.inl (S 7 t1 (S 5 t1 x3.toNatClampNeg).toNatClampNeg))] S (ab_back (fun _ _ => False) G 33 [some (.inl x0), some (.inr (4, t1)), some (.inl x2), some (.inl x3), some (.inl (S 5 t1 x3.toNatClampNeg))] [] 0))) : G 4 [some (.inl x0), some (.inr (4, t1)), some (.inl x2), some (.inl x3), none] [] S 0 := by
  refine ab_iload_n' hG 4 _ _ _ _ 3 _ dX3_below_4 rfl ?_
  refine ab_aload_n' hG 5 _ _ _ _ 1 _ dX3_below_5 rfl ?_
  refine ab_gI hG 6 _ _ _ _ 28 4 4 t1 dX3_below_6 (List.Mem.head _) rfl ?_
  refine ab_icmp_ge' hG 9 _ _ _ _ (40) 49 _ _ dX3_below_9 (by decide) (fun hc => ?_) (fun hc => ?_)
  · have h := h.1 hc
    refine ab_iload_n' hG 49 _ _ _ _ 2 _ dX3_below_49 rfl ?_
    exact ab_ireturn' hG 50 _ _ _ _ dX3_below_50 (Or.inl rfl) (by decide) h
  · have h := h.2 hc
    refine ab_aload_n' hG 12 _ _ _ _ 1 _ dX3_below_12 rfl ?_
    refine ab_gR hG 13 _ _ _ _ 34 4 0 t1 (5, t1) dX3_below_13 (List.Mem.tail _ (List.Mem.head _)) rfl ?_
    refine ab_iload_n' hG 16 _ _ _ _ 3 _ dX3_below_16 rfl ?_
    refine ab_iaload' hG 17 _ _ _ _ 5 t1 24 _ dX3_below_17 rfl h.1 ?_
    have h := h.2
    refine ab_istore' hG 18 _ _ _ _ 4 _ dX3_below_18 (Nat.le_of_ble_eq_true rfl) ?_
    refine ab_iload_n' hG 20 _ _ _ _ 0 _ dX3_below_20 rfl ?_
    refine ab_iload_n' hG 21 _ _ _ _ 2 _ dX3_below_21 rfl ?_
    refine ab_ior' hG 22 _ _ _ _ _ _ dX3_below_22 ?_
    refine ab_aload_n' hG 23 _ _ _ _ 1 _ dX3_below_23 rfl ?_
    refine ab_gR hG 24 _ _ _ _ 38 4 2 t1 (7, t1) dX3_below_24 (List.Mem.tail _ (List.Mem.tail _ (List.Mem.head _))) rfl ?_
    refine ab_iload' hG 27 _ _ _ _ 4 _ dX3_below_27 rfl ?_
    refine ab_iaload' hG 29 _ _ _ _ 7 t1 24 _ dX3_below_29 rfl h.1 ?_
    have h := h.2
    exact ab_invn' hG 30 _ [_, _] _ _ 0 41 _ 2 1 0 _ dX3_below_30 rfl rfl (Nat.le_of_ble_eq_true rfl) (Nat.le_of_ble_eq_true rfl) h
theorem bl_X3_below_33 {Q : ab_Po} {G : ab_Gt} (hG : ab_Cl M_X3_below Q G) (x0 : Int32) (t1 : Nat) (x2 : Int32) (x3 : Int32) (x4 : Int32) (xs0 : Int32) (S : ab_S) (h : (xs0 = 0 → G 4 [some (.inl x0), some (.inr (4, t1)), some (.inl x2), some (.inl (x3 + 1)), none] [] S 0) ∧ (¬ xs0 = 0 → G 4 [some (.inl x0), some (.inr (4, t1)), some (.inl (x2 ||| ((1 : Int32) <<< (x4 &&& 31)))), some (.inl (x3 + 1)), none] [] S 0)) : G 33 [some (.inl x0), some (.inr (4, t1)), some (.inl x2), some (.inl x3), some (.inl x4)] [(.inl xs0)] S 0 := by
  refine ab_if_eq' hG 33 _ _ _ _ (10) 43 _ dX3_below_33 (by decide) (fun hc => ?_) (fun hc => ?_)
  · have h := h.1 hc
    refine ab_iinc' hG 43 _ _ _ _ 3 1 _ _ dX3_below_43 rfl rfl ?_
    refine ab_goto' hG 46 _ _ _ _ (-42) 4 dX3_below_46 (by decide) ?_
    refine ab_forget' hG _ _ _ _ _ 4 ?_
    exact h
  · have h := h.2 hc
    refine ab_iload_n' hG 36 _ _ _ _ 2 _ dX3_below_36 rfl ?_
    refine ab_iconst' hG 37 _ _ _ _ 1 1 dX3_below_37 (by decide) ?_
    refine ab_iload' hG 38 _ _ _ _ 4 _ dX3_below_38 rfl ?_
    refine ab_ishl' hG 40 _ _ _ _ _ _ dX3_below_40 ?_
    refine ab_ior' hG 41 _ _ _ _ _ _ dX3_below_41 ?_
    refine ab_istore_n' hG 42 _ _ _ _ 2 _ dX3_below_42 (Nat.le_of_ble_eq_true rfl) ?_
    refine ab_iinc' hG 43 _ _ _ _ 3 1 _ _ dX3_below_43 rfl rfl ?_
    refine ab_goto' hG 46 _ _ _ _ (-42) 4 dX3_below_46 (by decide) ?_
    refine ab_forget' hG _ _ _ _ _ 4 ?_
    exact h
theorem bl_X3_behind_0 {Q : ab_Po} {G : ab_Gt} (hG : ab_Cl M_X3_behind Q G) (x0 : Int32) (t1 : Nat) (S : ab_S) (h : G 7 [some (.inl x0), some (.inr (4, t1)), some (.inl (0 : Int32)), some (.inl (0 : Int32)), some (.inl (1 : Int32)), none, none] [] S 0) : G 0 [some (.inl x0), some (.inr (4, t1)), none, none, none, none, none] [] S 0 := by
  refine ab_iconst' hG 0 _ _ _ _ 0 0 dX3_behind_0 (by decide) ?_
  refine ab_istore_n' hG 1 _ _ _ _ 2 _ dX3_behind_1 (Nat.le_of_ble_eq_true rfl) ?_
  refine ab_iconst' hG 2 _ _ _ _ 0 0 dX3_behind_2 (by decide) ?_
  refine ab_istore_n' hG 3 _ _ _ _ 3 _ dX3_behind_3 (Nat.le_of_ble_eq_true rfl) ?_
  refine ab_iconst' hG 4 _ _ _ _ 1 1 dX3_behind_4 (by decide) ?_
  refine ab_istore' hG 5 _ _ _ _ 4 _ dX3_behind_5 (Nat.le_of_ble_eq_true rfl) ?_
  exact h
theorem bl_X3_behind_7 {Q : ab_Po} {G : ab_Gt} (hG : ab_Cl M_X3_behind Q G) (x0 : Int32) (t1 : Nat) (x2 : Int32) (x3 : Int32) (x4 : Int32) (S : ab_S) (h : ((S 4 t1 4) ≤ x4 → Q (.inl (some x2)) S) ∧ (¬ (S 4 t1 4) ≤ x4 → vp_in x4 24 ∧ vp_in (S 5 t1 x4.toNatClampNeg) 24 ∧ Sp_X5_isIn [(.inl x3), (.inl (S 7 t1 (S 5 t1 x4.toNatClampNeg).toNatClampNeg))] S (ab_back (fun _ _ => False) G 40 [some (.inl x0), some (.inr (4, t1)), some (.inl x2), some (.inl x3), some (.inl x4), some (.inl (S 5 t1 x4.toNatClampNeg)), some (.inl (S 7 t1 (S 5 t1 x4.toNatClampNeg).toNatClampNeg))] [] 0))) : G 7 [some (.inl x0), some (.inr (4, t1)), some (.inl x2), some (.inl x3), some (.inl x4), none, none] [] S 0 := by
  refine ab_iload' hG 7 _ _ _ _ 4 _ dX3_behind_7 rfl ?_
  refine ab_aload_n' hG 9 _ _ _ _ 1 _ dX3_behind_9 rfl ?_
  refine ab_gI hG 10 _ _ _ _ 28 4 4 t1 dX3_behind_10 (List.Mem.head _) rfl ?_
  refine ab_icmp_ge' hG 13 _ _ _ _ (59) 72 _ _ dX3_behind_13 (by decide) (fun hc => ?_) (fun hc => ?_)
  · have h := h.1 hc
    refine ab_iload_n' hG 72 _ _ _ _ 2 _ dX3_behind_72 rfl ?_
    exact ab_ireturn' hG 73 _ _ _ _ dX3_behind_73 (Or.inl rfl) (by decide) h
  · have h := h.2 hc
    refine ab_aload_n' hG 16 _ _ _ _ 1 _ dX3_behind_16 rfl ?_
    refine ab_gR hG 17 _ _ _ _ 34 4 0 t1 (5, t1) dX3_behind_17 (List.Mem.tail _ (List.Mem.head _)) rfl ?_
    refine ab_iload' hG 20 _ _ _ _ 4 _ dX3_behind_20 rfl ?_
    refine ab_iaload' hG 22 _ _ _ _ 5 t1 24 _ dX3_behind_22 rfl h.1 ?_
    have h := h.2
    refine ab_istore' hG 23 _ _ _ _ 5 _ dX3_behind_23 (Nat.le_of_ble_eq_true rfl) ?_
    refine ab_aload_n' hG 25 _ _ _ _ 1 _ dX3_behind_25 rfl ?_
    refine ab_gR hG 26 _ _ _ _ 38 4 2 t1 (7, t1) dX3_behind_26 (List.Mem.tail _ (List.Mem.tail _ (List.Mem.head _))) rfl ?_
    refine ab_iload' hG 29 _ _ _ _ 5 _ dX3_behind_29 rfl ?_
    refine ab_iaload' hG 31 _ _ _ _ 7 t1 24 _ dX3_behind_31 rfl h.1 ?_
    have h := h.2
    refine ab_istore' hG 32 _ _ _ _ 6 _ dX3_behind_32 (Nat.le_of_ble_eq_true rfl) ?_
    refine ab_iload_n' hG 34 _ _ _ _ 3 _ dX3_behind_34 rfl ?_
    refine ab_iload' hG 35 _ _ _ _ 6 _ dX3_behind_35 rfl ?_
    exact ab_invn' hG 37 _ [_, _] _ _ 0 41 _ 2 1 0 _ dX3_behind_37 rfl rfl (Nat.le_of_ble_eq_true rfl) (Nat.le_of_ble_eq_true rfl) h
theorem bl_X3_behind_40 {Q : ab_Po} {G : ab_Gt} (hG : ab_Cl M_X3_behind Q G) (x0 : Int32) (t1 : Nat) (x2 : Int32) (x3 : Int32) (x4 : Int32) (x5 : Int32) (x6 : Int32) (xs0 : Int32) (S : ab_S) (h : (xs0 = 0 → Sp_X5_isIn [(.inl x0), (.inl x5)] S (ab_back (fun _ _ => False) G 56 [some (.inl x0), some (.inr (4, t1)), some (.inl x2), some (.inl x3), some (.inl x4), some (.inl x5), some (.inl x6)] [] 0)) ∧ (¬ xs0 = 0 → Sp_X5_isIn [(.inl x0), (.inl x5)] S (ab_back (fun _ _ => False) G 56 [some (.inl x0), some (.inr (4, t1)), some (.inl (x2 ||| ((1 : Int32) <<< (x5 &&& 31)))), some (.inl x3), some (.inl x4), some (.inl x5), some (.inl x6)] [] 0))) : G 40 [some (.inl x0), some (.inr (4, t1)), some (.inl x2), some (.inl x3), some (.inl x4), some (.inl x5), some (.inl x6)] [(.inl xs0)] S 0 := by
  refine ab_if_eq' hG 40 _ _ _ _ (10) 50 _ dX3_behind_40 (by decide) (fun hc => ?_) (fun hc => ?_)
  · have h := h.1 hc
    refine ab_iload_n' hG 50 _ _ _ _ 0 _ dX3_behind_50 rfl ?_
    refine ab_iload' hG 51 _ _ _ _ 5 _ dX3_behind_51 rfl ?_
    exact ab_invn' hG 53 _ [_, _] _ _ 0 41 _ 2 1 0 _ dX3_behind_53 rfl rfl (Nat.le_of_ble_eq_true rfl) (Nat.le_of_ble_eq_true rfl) h
  · have h := h.2 hc
    refine ab_iload_n' hG 43 _ _ _ _ 2 _ dX3_behind_43 rfl ?_
    refine ab_iconst' hG 44 _ _ _ _ 1 1 dX3_behind_44 (by decide) ?_
    refine ab_iload' hG 45 _ _ _ _ 5 _ dX3_behind_45 rfl ?_
    refine ab_ishl' hG 47 _ _ _ _ _ _ dX3_behind_47 ?_
    refine ab_ior' hG 48 _ _ _ _ _ _ dX3_behind_48 ?_
    refine ab_istore_n' hG 49 _ _ _ _ 2 _ dX3_behind_49 (Nat.le_of_ble_eq_true rfl) ?_
    refine ab_iload_n' hG 50 _ _ _ _ 0 _ dX3_behind_50 rfl ?_
    refine ab_iload' hG 51 _ _ _ _ 5 _ dX3_behind_51 rfl ?_
    exact ab_invn' hG 53 _ [_, _] _ _ 0 41 _ 2 1 0 _ dX3_behind_53 rfl rfl (Nat.le_of_ble_eq_true rfl) (Nat.le_of_ble_eq_true rfl) h
theorem bl_X3_behind_56 {Q : ab_Po} {G : ab_Gt} (hG : ab_Cl M_X3_behind Q G) (x0 : Int32) (t1 : Nat) (x2 : Int32) (x3 : Int32) (x4 : Int32) (x5 : Int32) (x6 : Int32) (xs0 : Int32) (S : ab_S) (h : (xs0 = 0 → G 7 [some (.inl x0), some (.inr (4, t1)), some (.inl x2), some (.inl x3), some (.inl (x4 + 1)), none, none] [] S 0) ∧ (¬ xs0 = 0 → G 7 [some (.inl x0), some (.inr (4, t1)), some (.inl x2), some (.inl (x3 ||| ((1 : Int32) <<< (x6 &&& 31)))), some (.inl (x4 + 1)), none, none] [] S 0)) : G 56 [some (.inl x0), some (.inr (4, t1)), some (.inl x2), some (.inl x3), some (.inl x4), some (.inl x5), some (.inl x6)] [(.inl xs0)] S 0 := by
  refine ab_if_eq' hG 56 _ _ _ _ (10) 66 _ dX3_behind_56 (by decide) (fun hc => ?_) (fun hc => ?_)
  · have h := h.1 hc
    refine ab_iinc' hG 66 _ _ _ _ 4 1 _ _ dX3_behind_66 rfl rfl ?_
    refine ab_goto' hG 69 _ _ _ _ (-62) 7 dX3_behind_69 (by decide) ?_
    refine ab_forget' hG _ _ _ _ _ 5 ?_
    refine ab_forget' hG _ _ _ _ _ 6 ?_
    exact h
  · have h := h.2 hc
    refine ab_iload_n' hG 59 _ _ _ _ 3 _ dX3_behind_59 rfl ?_
    refine ab_iconst' hG 60 _ _ _ _ 1 1 dX3_behind_60 (by decide) ?_
    refine ab_iload' hG 61 _ _ _ _ 6 _ dX3_behind_61 rfl ?_
    refine ab_ishl' hG 63 _ _ _ _ _ _ dX3_behind_63 ?_
    refine ab_ior' hG 64 _ _ _ _ _ _ dX3_behind_64 ?_
    refine ab_istore_n' hG 65 _ _ _ _ 3 _ dX3_behind_65 (Nat.le_of_ble_eq_true rfl) ?_
    refine ab_iinc' hG 66 _ _ _ _ 4 1 _ _ dX3_behind_66 rfl rfl ?_
    refine ab_goto' hG 69 _ _ _ _ (-62) 7 dX3_behind_69 (by decide) ?_
    refine ab_forget' hG _ _ _ _ _ 5 ?_
    refine ab_forget' hG _ _ _ _ _ 6 ?_
    exact h
theorem bl_X3_alongAxis_0 {Q : ab_Po} {G : ab_Gt} (hG : ab_Cl M_X3_alongAxis Q G) (x0 : Int32) (x1 : Int32) (t2 : Nat) (S : ab_S) (h : (x0 = (1 : Int32) → Sp_X3_childrenOf [(.inl x1), (.inr (4, t2))] S (ab_back Q G 10 [some (.inl x0), some (.inl x1), some (.inr (4, t2))] [] 0)) ∧ (¬ x0 = (1 : Int32) → (x0 = (2 : Int32) → Sp_X3_below [(.inl x1), (.inr (4, t2))] S (ab_back Q G 21 [some (.inl x0), some (.inl x1), some (.inr (4, t2))] [] 0)) ∧ (¬ x0 = (2 : Int32) → Sp_X3_behind [(.inl x1), (.inr (4, t2))] S (ab_back Q G 29 [some (.inl x0), some (.inl x1), some (.inr (4, t2))] [] 0)))) : G 0 [some (.inl x0), some (.inl x1), some (.inr (4, t2))] [] S 0 := by
  refine ab_iload_n' hG 0 _ _ _ _ 0 _ dX3_alongAxis_0 rfl ?_
  refine ab_iconst' hG 1 _ _ _ _ 1 1 dX3_alongAxis_1 (by decide) ?_
  refine ab_icmp_ne' hG 2 _ _ _ _ (9) 11 _ _ dX3_alongAxis_2 (by decide) (fun hc => ?_) (fun hc => ?_)
  · have h := h.2 hc
    refine ab_iload_n' hG 11 _ _ _ _ 0 _ dX3_alongAxis_11 rfl ?_
    refine ab_iconst' hG 12 _ _ _ _ 2 2 dX3_alongAxis_12 (by decide) ?_
    refine ab_icmp_ne' hG 13 _ _ _ _ (11) 24 _ _ dX3_alongAxis_13 (by decide) (fun hc => ?_) (fun hc => ?_)
    · have h := h.2 hc
      refine ab_iload_n' hG 24 _ _ _ _ 1 _ dX3_alongAxis_24 rfl ?_
      refine ab_aload_n' hG 25 _ _ _ _ 2 _ dX3_alongAxis_25 rfl ?_
      exact ab_invs' hG 26 _ [_, _] _ _ 0 25 _ 2 1 0 _ dX3_alongAxis_26 rfl rfl (Nat.le_of_ble_eq_true rfl) (Nat.le_of_ble_eq_true rfl) h
    · have h := h.1 hc
      refine ab_iload_n' hG 16 _ _ _ _ 1 _ dX3_alongAxis_16 rfl ?_
      refine ab_aload_n' hG 17 _ _ _ _ 2 _ dX3_alongAxis_17 rfl ?_
      exact ab_invs' hG 18 _ [_, _] _ _ 0 22 _ 2 1 0 _ dX3_alongAxis_18 rfl rfl (Nat.le_of_ble_eq_true rfl) (Nat.le_of_ble_eq_true rfl) h
  · have h := h.1 hc
    refine ab_iload_n' hG 5 _ _ _ _ 1 _ dX3_alongAxis_5 rfl ?_
    refine ab_aload_n' hG 6 _ _ _ _ 2 _ dX3_alongAxis_6 rfl ?_
    exact ab_invs' hG 7 _ [_, _] _ _ 0 19 _ 2 1 0 _ dX3_alongAxis_7 rfl rfl (Nat.le_of_ble_eq_true rfl) (Nat.le_of_ble_eq_true rfl) h
theorem bl_X3_alongAxis_10 {Q : ab_Po} {G : ab_Gt} (hG : ab_Cl M_X3_alongAxis Q G) (x0 : Int32) (x1 : Int32) (t2 : Nat) (xs0 : Int32) (S : ab_S) (h : Q (.inl (some xs0)) S) : G 10 [some (.inl x0), some (.inl x1), some (.inr (4, t2))] [(.inl xs0)] S 0 := by
  exact ab_ireturn' hG 10 _ _ _ _ dX3_alongAxis_10 (Or.inl rfl) (by decide) h
theorem bl_X3_alongAxis_21 {Q : ab_Po} {G : ab_Gt} (hG : ab_Cl M_X3_alongAxis Q G) (x0 : Int32) (x1 : Int32) (t2 : Nat) (xs0 : Int32) (S : ab_S) (h : Q (.inl (some xs0)) S) : G 21 [some (.inl x0), some (.inl x1), some (.inr (4, t2))] [(.inl xs0)] S 0 := by
  refine ab_goto' hG 21 _ _ _ _ (8) 29 dX3_alongAxis_21 (by decide) ?_
  exact ab_ireturn' hG 29 _ _ _ _ dX3_alongAxis_29 (Or.inl rfl) (by decide) h
theorem bl_X3_alongAxis_29 {Q : ab_Po} {G : ab_Gt} (hG : ab_Cl M_X3_alongAxis Q G) (x0 : Int32) (x1 : Int32) (t2 : Nat) (xs0 : Int32) (S : ab_S) (h : Q (.inl (some xs0)) S) : G 29 [some (.inl x0), some (.inl x1), some (.inr (4, t2))] [(.inl xs0)] S 0 := by
  exact ab_ireturn' hG 29 _ _ _ _ dX3_alongAxis_29 (Or.inl rfl) (by decide) h
theorem bl_X3_labelled_0 {Q : ab_Po} {G : ab_Gt} (hG : ab_Cl M_X3_labelled Q G) (x0 : Int32) (t1 : Nat) (S : ab_S) (h : G 4 [some (.inl x0), some (.inr (4, t1)), some (.inl (0 : Int32)), some (.inl (0 : Int32)), none] [] S 0) : G 0 [some (.inl x0), some (.inr (4, t1)), none, none, none] [] S 0 := by
  refine ab_iconst' hG 0 _ _ _ _ 0 0 dX3_labelled_0 (by decide) ?_
  refine ab_istore_n' hG 1 _ _ _ _ 2 _ dX3_labelled_1 (Nat.le_of_ble_eq_true rfl) ?_
  refine ab_iconst' hG 2 _ _ _ _ 0 0 dX3_labelled_2 (by decide) ?_
  refine ab_istore_n' hG 3 _ _ _ _ 3 _ dX3_labelled_3 (Nat.le_of_ble_eq_true rfl) ?_
  exact h
theorem bl_X3_labelled_4 {Q : ab_Po} {G : ab_Gt} (hG : ab_Cl M_X3_labelled Q G) (x0 : Int32) (t1 : Nat) (x2 : Int32) (x3 : Int32) (S : ab_S) (h : ((S 4 t1 4) ≤ x3 → Q (.inl (some x2)) S) ∧ (¬ (S 4 t1 4) ≤ x3 → vp_in x3 24 ∧ ((6 : Int32) ≤ x0 → G 4 [some (.inl x0), some (.inr (4, t1)), some (.inl (x2 ||| ((1 : Int32) <<< ((S 5 t1 x3.toNatClampNeg) &&& 31)))), some (.inl (x3 + 1)), none] [] S 0) ∧ (¬ (6 : Int32) ≤ x0 → vp_in (S 5 t1 x3.toNatClampNeg) 24 ∧ ((S 8 t1 (S 5 t1 x3.toNatClampNeg).toNatClampNeg) = x0 → G 4 [some (.inl x0), some (.inr (4, t1)), some (.inl (x2 ||| ((1 : Int32) <<< ((S 5 t1 x3.toNatClampNeg) &&& 31)))), some (.inl (x3 + 1)), none] [] S 0) ∧ (¬ (S 8 t1 (S 5 t1 x3.toNatClampNeg).toNatClampNeg) = x0 → G 4 [some (.inl x0), some (.inr (4, t1)), some (.inl x2), some (.inl (x3 + 1)), none] [] S 0)))) : G 4 [some (.inl x0), some (.inr (4, t1)), some (.inl x2), some (.inl x3), none] [] S 0 := by
  refine ab_iload_n' hG 4 _ _ _ _ 3 _ dX3_labelled_4 rfl ?_
  refine ab_aload_n' hG 5 _ _ _ _ 1 _ dX3_labelled_5 rfl ?_
  refine ab_gI hG 6 _ _ _ _ 28 4 4 t1 dX3_labelled_6 (List.Mem.head _) rfl ?_
  refine ab_icmp_ge' hG 9 _ _ _ _ (41) 50 _ _ dX3_labelled_9 (by decide) (fun hc => ?_) (fun hc => ?_)
  · have h := h.1 hc
    refine ab_iload_n' hG 50 _ _ _ _ 2 _ dX3_labelled_50 rfl ?_
    exact ab_ireturn' hG 51 _ _ _ _ dX3_labelled_51 (Or.inl rfl) (by decide) h
  · have h := h.2 hc
    refine ab_aload_n' hG 12 _ _ _ _ 1 _ dX3_labelled_12 rfl ?_
    refine ab_gR hG 13 _ _ _ _ 34 4 0 t1 (5, t1) dX3_labelled_13 (List.Mem.tail _ (List.Mem.head _)) rfl ?_
    refine ab_iload_n' hG 16 _ _ _ _ 3 _ dX3_labelled_16 rfl ?_
    refine ab_iaload' hG 17 _ _ _ _ 5 t1 24 _ dX3_labelled_17 rfl h.1 ?_
    have h := h.2
    refine ab_istore' hG 18 _ _ _ _ 4 _ dX3_labelled_18 (Nat.le_of_ble_eq_true rfl) ?_
    refine ab_iload_n' hG 20 _ _ _ _ 0 _ dX3_labelled_20 rfl ?_
    refine ab_bipush' hG 21 _ _ _ _ 6 6 dX3_labelled_21 (by decide) ?_
    refine ab_icmp_ge' hG 23 _ _ _ _ (14) 37 _ _ dX3_labelled_23 (by decide) (fun hc => ?_) (fun hc => ?_)
    · have h := h.1 hc
      refine ab_iload_n' hG 37 _ _ _ _ 2 _ dX3_labelled_37 rfl ?_
      refine ab_iconst' hG 38 _ _ _ _ 1 1 dX3_labelled_38 (by decide) ?_
      refine ab_iload' hG 39 _ _ _ _ 4 _ dX3_labelled_39 rfl ?_
      refine ab_ishl' hG 41 _ _ _ _ _ _ dX3_labelled_41 ?_
      refine ab_ior' hG 42 _ _ _ _ _ _ dX3_labelled_42 ?_
      refine ab_istore_n' hG 43 _ _ _ _ 2 _ dX3_labelled_43 (Nat.le_of_ble_eq_true rfl) ?_
      refine ab_iinc' hG 44 _ _ _ _ 3 1 _ _ dX3_labelled_44 rfl rfl ?_
      refine ab_goto' hG 47 _ _ _ _ (-43) 4 dX3_labelled_47 (by decide) ?_
      refine ab_forget' hG _ _ _ _ _ 4 ?_
      exact h
    · have h := h.2 hc
      refine ab_aload_n' hG 26 _ _ _ _ 1 _ dX3_labelled_26 rfl ?_
      refine ab_gR hG 27 _ _ _ _ 45 4 3 t1 (8, t1) dX3_labelled_27 (List.Mem.tail _ (List.Mem.tail _ (List.Mem.head _))) rfl ?_
      refine ab_iload' hG 30 _ _ _ _ 4 _ dX3_labelled_30 rfl ?_
      refine ab_iaload' hG 32 _ _ _ _ 8 t1 24 _ dX3_labelled_32 rfl h.1 ?_
      have h := h.2
      refine ab_iload_n' hG 33 _ _ _ _ 0 _ dX3_labelled_33 rfl ?_
      refine ab_icmp_ne' hG 34 _ _ _ _ (10) 44 _ _ dX3_labelled_34 (by decide) (fun hc => ?_) (fun hc => ?_)
      · have h := h.2 hc
        refine ab_iinc' hG 44 _ _ _ _ 3 1 _ _ dX3_labelled_44 rfl rfl ?_
        refine ab_goto' hG 47 _ _ _ _ (-43) 4 dX3_labelled_47 (by decide) ?_
        refine ab_forget' hG _ _ _ _ _ 4 ?_
        exact h
      · have h := h.1 hc
        refine ab_iload_n' hG 37 _ _ _ _ 2 _ dX3_labelled_37 rfl ?_
        refine ab_iconst' hG 38 _ _ _ _ 1 1 dX3_labelled_38 (by decide) ?_
        refine ab_iload' hG 39 _ _ _ _ 4 _ dX3_labelled_39 rfl ?_
        refine ab_ishl' hG 41 _ _ _ _ _ _ dX3_labelled_41 ?_
        refine ab_ior' hG 42 _ _ _ _ _ _ dX3_labelled_42 ?_
        refine ab_istore_n' hG 43 _ _ _ _ 2 _ dX3_labelled_43 (Nat.le_of_ble_eq_true rfl) ?_
        refine ab_iinc' hG 44 _ _ _ _ 3 1 _ _ dX3_labelled_44 rfl rfl ?_
        refine ab_goto' hG 47 _ _ _ _ (-43) 4 dX3_labelled_47 (by decide) ?_
        refine ab_forget' hG _ _ _ _ _ 4 ?_
        exact h
theorem bl_X3_follow_0 {Q : ab_Po} {G : ab_Gt} (hG : ab_Cl M_X3_follow Q G) (x0 : Int32) (t1 : Nat) (S : ab_S) (h : G 4 [some (.inl x0), some (.inr (4, t1)), some (.inl (1 : Int32)), some (.inl (0 : Int32)), none, none] [] S 0) : G 0 [some (.inl x0), some (.inr (4, t1)), none, none, none, none] [] S 0 := by
  refine ab_iconst' hG 0 _ _ _ _ 1 1 dX3_follow_0 (by decide) ?_
  refine ab_istore_n' hG 1 _ _ _ _ 2 _ dX3_follow_1 (Nat.le_of_ble_eq_true rfl) ?_
  refine ab_iconst' hG 2 _ _ _ _ 0 0 dX3_follow_2 (by decide) ?_
  refine ab_istore_n' hG 3 _ _ _ _ 3 _ dX3_follow_3 (Nat.le_of_ble_eq_true rfl) ?_
  exact h
theorem bl_X3_follow_4 {Q : ab_Po} {G : ab_Gt} (hG : ab_Cl M_X3_follow Q G) (x0 : Int32) (t1 : Nat) (x2 : Int32) (x3 : Int32) (S : ab_S) (h : ((6 : Int32) ≤ x3 → Q (.inl (some x2)) S) ∧ (¬ (6 : Int32) ≤ x3 → (((x0 >>> ((x3 * (5 : Int32)) &&& 31)) &&& (3 : Int32)) = 0 → Q (.inl (some x2)) S) ∧ (¬ ((x0 >>> ((x3 * (5 : Int32)) &&& 31)) &&& (3 : Int32)) = 0 → Sp_X3_alongAxis [(.inl ((x0 >>> ((x3 * (5 : Int32)) &&& 31)) &&& (3 : Int32))), (.inl x2), (.inr (4, t1))] S (ab_back Q G 38 [some (.inl x0), some (.inr (4, t1)), some (.inl x2), some (.inl x3), some (.inl (x0 >>> ((x3 * (5 : Int32)) &&& 31))), some (.inl ((x0 >>> ((x3 * (5 : Int32)) &&& 31)) &&& (3 : Int32)))] [] 0)))) : G 4 [some (.inl x0), some (.inr (4, t1)), some (.inl x2), some (.inl x3), none, none] [] S 0 := by
  refine ab_iload_n' hG 4 _ _ _ _ 3 _ dX3_follow_4 rfl ?_
  refine ab_bipush' hG 5 _ _ _ _ 6 6 dX3_follow_5 (by decide) ?_
  refine ab_icmp_ge' hG 7 _ _ _ _ (50) 57 _ _ dX3_follow_7 (by decide) (fun hc => ?_) (fun hc => ?_)
  · have h := h.1 hc
    refine ab_iload_n' hG 57 _ _ _ _ 2 _ dX3_follow_57 rfl ?_
    exact ab_ireturn' hG 58 _ _ _ _ dX3_follow_58 (Or.inl rfl) (by decide) h
  · have h := h.2 hc
    refine ab_iload_n' hG 10 _ _ _ _ 0 _ dX3_follow_10 rfl ?_
    refine ab_iload_n' hG 11 _ _ _ _ 3 _ dX3_follow_11 rfl ?_
    refine ab_iconst' hG 12 _ _ _ _ 5 5 dX3_follow_12 (by decide) ?_
    refine ab_imul' hG 13 _ _ _ _ _ _ dX3_follow_13 ?_
    refine ab_ishr' hG 14 _ _ _ _ _ _ dX3_follow_14 ?_
    refine ab_istore' hG 15 _ _ _ _ 4 _ dX3_follow_15 (Nat.le_of_ble_eq_true rfl) ?_
    refine ab_iload' hG 17 _ _ _ _ 4 _ dX3_follow_17 rfl ?_
    refine ab_iconst' hG 19 _ _ _ _ 3 3 dX3_follow_19 (by decide) ?_
    refine ab_iand' hG 20 _ _ _ _ _ _ dX3_follow_20 ?_
    refine ab_istore' hG 21 _ _ _ _ 5 _ dX3_follow_21 (Nat.le_of_ble_eq_true rfl) ?_
    refine ab_iload' hG 23 _ _ _ _ 5 _ dX3_follow_23 rfl ?_
    refine ab_if_ne' hG 25 _ _ _ _ (6) 31 _ dX3_follow_25 (by decide) (fun hc => ?_) (fun hc => ?_)
    · have h := h.2 hc
      refine ab_iload' hG 31 _ _ _ _ 5 _ dX3_follow_31 rfl ?_
      refine ab_iload_n' hG 33 _ _ _ _ 2 _ dX3_follow_33 rfl ?_
      refine ab_aload_n' hG 34 _ _ _ _ 1 _ dX3_follow_34 rfl ?_
      exact ab_invs' hG 35 _ [_, _, _] _ _ 0 11 _ 3 1 0 _ dX3_follow_35 rfl rfl (Nat.le_of_ble_eq_true rfl) (Nat.le_of_ble_eq_true rfl) h
    · have h := h.1 hc
      refine ab_goto' hG 28 _ _ _ _ (29) 57 dX3_follow_28 (by decide) ?_
      refine ab_iload_n' hG 57 _ _ _ _ 2 _ dX3_follow_57 rfl ?_
      exact ab_ireturn' hG 58 _ _ _ _ dX3_follow_58 (Or.inl rfl) (by decide) h
theorem bl_X3_follow_38 {Q : ab_Po} {G : ab_Gt} (hG : ab_Cl M_X3_follow Q G) (x0 : Int32) (t1 : Nat) (x2 : Int32) (x3 : Int32) (x4 : Int32) (x5 : Int32) (xs0 : Int32) (S : ab_S) (h : Sp_X3_labelled [(.inl ((x4 >>> ((2 : Int32) &&& 31)) &&& (7 : Int32))), (.inr (4, t1))] S (ab_back Q G 49 [some (.inl x0), some (.inr (4, t1)), some (.inl x2), some (.inl x3), some (.inl x4), some (.inl x5)] [(.inl xs0)] 0)) : G 38 [some (.inl x0), some (.inr (4, t1)), some (.inl x2), some (.inl x3), some (.inl x4), some (.inl x5)] [(.inl xs0)] S 0 := by
  refine ab_iload' hG 38 _ _ _ _ 4 _ dX3_follow_38 rfl ?_
  refine ab_iconst' hG 40 _ _ _ _ 2 2 dX3_follow_40 (by decide) ?_
  refine ab_ishr' hG 41 _ _ _ _ _ _ dX3_follow_41 ?_
  refine ab_bipush' hG 42 _ _ _ _ 7 7 dX3_follow_42 (by decide) ?_
  refine ab_iand' hG 44 _ _ _ _ _ _ dX3_follow_44 ?_
  refine ab_aload_n' hG 45 _ _ _ _ 1 _ dX3_follow_45 rfl ?_
  exact ab_invs' hG 46 _ [_, _] _ _ 0 15 _ 2 1 0 _ dX3_follow_46 rfl rfl (Nat.le_of_ble_eq_true rfl) (Nat.le_of_ble_eq_true rfl) h
theorem bl_X3_follow_49 {Q : ab_Po} {G : ab_Gt} (hG : ab_Cl M_X3_follow Q G) (x0 : Int32) (t1 : Nat) (x2 : Int32) (x3 : Int32) (x4 : Int32) (x5 : Int32) (xs0 : Int32) (xs1 : Int32) (S : ab_S) (h : G 4 [some (.inl x0), some (.inr (4, t1)), some (.inl (xs1 &&& xs0)), some (.inl (x3 + 1)), none, none] [] S 0) : G 49 [some (.inl x0), some (.inr (4, t1)), some (.inl x2), some (.inl x3), some (.inl x4), some (.inl x5)] [(.inl xs0), (.inl xs1)] S 0 := by
  refine ab_iand' hG 49 _ _ _ _ _ _ dX3_follow_49 ?_
  refine ab_istore_n' hG 50 _ _ _ _ 2 _ dX3_follow_50 (Nat.le_of_ble_eq_true rfl) ?_
  refine ab_iinc' hG 51 _ _ _ _ 3 1 _ _ dX3_follow_51 rfl rfl ?_
  refine ab_goto' hG 54 _ _ _ _ (-50) 4 dX3_follow_54 (by decide) ?_
  refine ab_forget' hG _ _ _ _ _ 4 ?_
  refine ab_forget' hG _ _ _ _ _ 5 ?_
  exact h
