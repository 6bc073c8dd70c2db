theorem bl_J7_fill_53178_k7_0 {Q : ab_Po} {G : ab_Gt} (hG : ab_Cl M_J7_fill_53178 Q G) (t0 : Nat) (x1 : Int32) (S : ab_S) (h : G 5 [some (.inr (7, t0)), some (.inl x1), some (.inl (0 : Int32)), some (.inl 24)] [] S 0) : G 0 [some (.inr (7, t0)), some (.inl x1), none, none] [] S 0 := by
  refine ab_iconst' hG 0 _ _ _ _ 0 0 dJ7_fill_53178_0 (by decide) ?_
  refine ab_istore_n' hG 1 _ _ _ _ 2 _ dJ7_fill_53178_1 (Nat.le_of_ble_eq_true rfl) ?_
  refine ab_aload_n' hG 2 _ _ _ _ 0 _ dJ7_fill_53178_2 rfl ?_
  refine ab_alen' hG 3 _ _ _ _ 7 t0 24 24 dJ7_fill_53178_3 rfl (by decide) ?_
  refine ab_istore_n' hG 4 _ _ _ _ 3 _ dJ7_fill_53178_4 (Nat.le_of_ble_eq_true rfl) ?_
  exact h
theorem bl_J7_fill_53178_k7_5 {Q : ab_Po} {G : ab_Gt} (hG : ab_Cl M_J7_fill_53178 Q G) (t0 : Nat) (x1 : Int32) (x2 : Int32) (x3 : Int32) (S : ab_S) (h : (x3 ≤ x2 → Q (.inl none) S) ∧ (¬ x3 ≤ x2 → vp_in x2 24 ∧ (∀ S1 : ab_S, S1 = ab_su S 7 t0 x2.toNatClampNeg x1 → G 5 [some (.inr (7, t0)), some (.inl x1), some (.inl (x2 + 1)), some (.inl x3)] [] S1 0))) : G 5 [some (.inr (7, t0)), some (.inl x1), some (.inl x2), some (.inl x3)] [] S 0 := by
  refine ab_iload_n' hG 5 _ _ _ _ 2 _ dJ7_fill_53178_5 rfl ?_
  refine ab_iload_n' hG 6 _ _ _ _ 3 _ dJ7_fill_53178_6 rfl ?_
  refine ab_icmp_ge' hG 7 _ _ _ _ (13) 20 _ _ dJ7_fill_53178_7 (by decide) (fun hc => ?_) (fun hc => ?_)
  · have h := h.1 hc
    exact ab_return_' hG 20 _ _ _ dJ7_fill_53178_20 rfl (by decide) h
  · have h := h.2 hc
    refine ab_aload_n' hG 10 _ _ _ _ 0 _ dJ7_fill_53178_10 rfl ?_
    refine ab_iload_n' hG 11 _ _ _ _ 2 _ dJ7_fill_53178_11 rfl ?_
    refine ab_iload_n' hG 12 _ _ _ _ 1 _ dJ7_fill_53178_12 rfl ?_
    refine ab_iastore' hG 13 _ _ _ _ 7 t0 24 _ _ dJ7_fill_53178_13 rfl h.1 ?_
    have h := h.2
    have h := h _ rfl
    refine ab_iinc' hG 14 _ _ _ _ 2 1 _ _ dJ7_fill_53178_14 rfl rfl ?_
    refine ab_goto' hG 17 _ _ _ _ (-12) 5 dJ7_fill_53178_17 (by decide) ?_
    exact h
theorem bl_J7_fill_53178_k8_0 {Q : ab_Po} {G : ab_Gt} (hG : ab_Cl M_J7_fill_53178 Q G) (t0 : Nat) (x1 : Int32) (S : ab_S) (h : G 5 [some (.inr (8, t0)), some (.inl x1), some (.inl (0 : Int32)), some (.inl 24)] [] S 0) : G 0 [some (.inr (8, t0)), some (.inl x1), none, none] [] S 0 := by
  refine ab_iconst' hG 0 _ _ _ _ 0 0 dJ7_fill_53178_0 (by decide) ?_
  refine ab_istore_n' hG 1 _ _ _ _ 2 _ dJ7_fill_53178_1 (Nat.le_of_ble_eq_true rfl) ?_
  refine ab_aload_n' hG 2 _ _ _ _ 0 _ dJ7_fill_53178_2 rfl ?_
  refine ab_alen' hG 3 _ _ _ _ 8 t0 24 24 dJ7_fill_53178_3 rfl (by decide) ?_
  refine ab_istore_n' hG 4 _ _ _ _ 3 _ dJ7_fill_53178_4 (Nat.le_of_ble_eq_true rfl) ?_
  exact h
theorem bl_J7_fill_53178_k8_5 {Q : ab_Po} {G : ab_Gt} (hG : ab_Cl M_J7_fill_53178 Q G) (t0 : Nat) (x1 : Int32) (x2 : Int32) (x3 : Int32) (S : ab_S) (h : (x3 ≤ x2 → Q (.inl none) S) ∧ (¬ x3 ≤ x2 → vp_in x2 24 ∧ (∀ S1 : ab_S, S1 = ab_su S 8 t0 x2.toNatClampNeg x1 → G 5 [some (.inr (8, t0)), some (.inl x1), some (.inl (x2 + 1)), some (.inl x3)] [] S1 0))) : G 5 [some (.inr (8, t0)), some (.inl x1), some (.inl x2), some (.inl x3)] [] S 0 := by
  refine ab_iload_n' hG 5 _ _ _ _ 2 _ dJ7_fill_53178_5 rfl ?_
  refine ab_iload_n' hG 6 _ _ _ _ 3 _ dJ7_fill_53178_6 rfl ?_
  refine ab_icmp_ge' hG 7 _ _ _ _ (13) 20 _ _ dJ7_fill_53178_7 (by decide) (fun hc => ?_) (fun hc => ?_)
  · have h := h.1 hc
    exact ab_return_' hG 20 _ _ _ dJ7_fill_53178_20 rfl (by decide) h
  · have h := h.2 hc
    refine ab_aload_n' hG 10 _ _ _ _ 0 _ dJ7_fill_53178_10 rfl ?_
    refine ab_iload_n' hG 11 _ _ _ _ 2 _ dJ7_fill_53178_11 rfl ?_
    refine ab_iload_n' hG 12 _ _ _ _ 1 _ dJ7_fill_53178_12 rfl ?_
    refine ab_iastore' hG 13 _ _ _ _ 8 t0 24 _ _ dJ7_fill_53178_13 rfl h.1 ?_
    have h := h.2
    have h := h _ rfl
    refine ab_iinc' hG 14 _ _ _ _ 2 1 _ _ dJ7_fill_53178_14 rfl rfl ?_
    refine ab_goto' hG 17 _ _ _ _ (-12) 5 dJ7_fill_53178_17 (by decide) ?_
    exact h
