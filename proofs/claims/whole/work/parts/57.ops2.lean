/-! The calls that change no tree: base, conflict, about, child, nodes, state, above. -/
def Out (x : Int32) (n : Nat) : Prop := x < 0 ∨ (¬ x < 0 ∧ nI n ≤ x ∧ ¬ x < nI n)
theorem in_or (x : Int32) {n : Nat} (hn : n < 2 ^ 31) : (∃ c, c < n ∧ x = nI c) ∨ Out x n := by
  by_cases h : x < 0
  · exact Or.inr (Or.inl h)
  · obtain ⟨j, hj, rfl⟩ := nI_of h
    by_cases q : j < n
    · exact Or.inl ⟨j, q, rfl⟩
    · exact Or.inr (Or.inr ⟨h, nI_le (by omega) hj, nI_nlt (by omega) hj⟩)
theorem Out.ne {x : Int32} {n : Nat} (h : Out x n) (hn : n < 2 ^ 31) : ∀ c, c < n → x ≠ nI c := fun c hc e => by
  subst e
  rcases h with h | h
  · exact nI_pos (by omega) h
  · exact h.2.2 (nI_lt hc hn)
theorem rc_yes {Q : ab_Po} {S : ab_S} {nc c : Nat} (hn : S 1 0 3 = nI nc) (hnc : nc ≤ 12) (hc : c < nc) (hQ : Q (.inl none) S) : Sp_X5_requireCommit [.inr (0, 0), .inl (nI c)] S Q := by
  refine ⟨Nat.le_of_ble_eq_true rfl, fun G hG => ?_⟩
  refine bl_X5_requireCommit_0 hG _ S ?_
  rw [hn]
  exact ⟨fun h => absurd h (nI_pos (by omega)), fun _ => ⟨fun _ => hQ, fun h => absurd (nI_lt hc (by omega)) h⟩⟩
theorem rc_no {Q : ab_Po} {S : ab_S} {nc : Nat} {x : Int32} (hn : S 1 0 3 = nI nc) (h : Out x nc) (hQ : Q (.inr 0) S) : Sp_X5_requireCommit [.inr (0, 0), .inl x] S Q := by
  refine ⟨Nat.le_of_ble_eq_true rfl, fun G hG => ?_⟩
  refine bl_X5_requireCommit_0 hG _ S ?_
  rw [hn]
  rcases h with h | h
  · exact ⟨fun _ => hQ, fun z => absurd h z⟩
  · exact ⟨fun z => absurd z h.1, fun _ => ⟨fun z => absurd z h.2.2, fun _ => hQ⟩⟩
theorem ic_yes {Q : ab_Po} {S : ab_S} {nc c : Nat} (hn : S 21 0 6 = nI nc) (hnc : nc ≤ 12) (hc : c < nc) (hQ : Q (.inl (some 1)) S) : Sp_X6_isCommit [.inr (21, 0), .inl (nI c)] S Q := by
  refine ⟨Nat.le_of_ble_eq_true rfl, fun G hG => ?_⟩
  refine bl_X6_isCommit_0 hG _ S ?_
  rw [hn]
  exact ⟨fun h => absurd h (nI_pos (by omega)), fun _ => ⟨fun h => absurd h (nI_ge hc (by omega)), fun _ => hQ⟩⟩
theorem ic_no {Q : ab_Po} {S : ab_S} {nc : Nat} {x : Int32} (hn : S 21 0 6 = nI nc) (h : Out x nc) (hQ : Q (.inl (some 0)) S) : Sp_X6_isCommit [.inr (21, 0), .inl x] S Q := by
  refine ⟨Nat.le_of_ble_eq_true rfl, fun G hG => ?_⟩
  refine bl_X6_isCommit_0 hG _ S ?_
  rw [hn]
  rcases h with h | h
  · exact ⟨fun _ => hQ, fun z => absurd h z⟩
  · exact ⟨fun z => absurd z h.1, fun _ => ⟨fun _ => hQ, fun z => absurd h.2.1 z⟩⟩
theorem th_b {S S1 : ab_S} {c : Int32} {A B : Prop} (e : S1 = ab_su S 21 0 0 c) (hc : ¬ c = 0) (hB : B) : (S1 21 0 0 = 0 → A) ∧ (¬ S1 21 0 0 = 0 → B) := by
  subst e; rw [su_at]; exact ⟨fun z => absurd z hc, fun _ => hB⟩
theorem th_b' {S S1 : ab_S} {c : Int32} {A B : Prop} (e : S1 = ab_su S 21 0 0 c) (hc : ¬ c ≤ 0) (hB : B) : (S1 21 0 0 ≤ 0 → A) ∧ (¬ S1 21 0 0 ≤ 0 → B) := by
  subst e; rw [su_at]; exact ⟨fun z => absurd z hc, fun _ => hB⟩
theorem th_g {S S1 : ab_S} {A B : Prop} (e : S1 = ab_su S 21 0 0 0) (hA : A) : (S1 21 0 0 = 0 → A) ∧ (¬ S1 21 0 0 = 0 → B) := by
  subst e; rw [su_at]; exact ⟨fun _ => hA, fun z => absurd rfl z⟩
theorem th_g' {S S1 : ab_S} {A B : Prop} (e : S1 = ab_su S 21 0 0 0) (hA : A) : (S1 21 0 0 ≤ 0 → A) ∧ (¬ S1 21 0 0 ≤ 0 → B) := by
  subst e; rw [su_at]; exact ⟨fun _ => hA, fun z => absurd (by decide) z⟩
def cd1 : Nat → Int32 := fun _ => 1
/-- a state that a query of the class leaves -/
theorem jq {S S1 : ab_S} {g : gD} (hm : JM S g) (hs : ∀ a, a ≠ 41 → S1 a = S a) : JM S1 g := hm.congr (fun a _ h2 => hs a (by omega))
theorem jc {S S1 : ab_S} {g : gD} (hc : JC S g) (hs : ∀ a, a ≠ 41 → S1 a = S a) : JC S1 g := hc.congr (fun a h2 => hs a (by omega))
theorem op_base {S : ab_S} {x1 x2 : Int32} (hJ : Jv S) : Op2 Sp_X5_base [.inr (0, 0), .inl x1, .inl x2] Sp_X6_base [.inr (21, 0), .inl x1, .inl x2] cd1 S := by
  obtain ⟨g, hd, hc, hm⟩ := hJ
  have hnc := hd.2.1.2
  have hsz := hc.1.2.2.2
  refine ⟨Nat.le_of_ble_eq_true rfl, fun G hG => ?_⟩
  refine bl_X5_base_0 hG x1 x2 S ?_
  rcases in_or x1 (n := gNc g) (by omega) with ⟨a, ha, rfl⟩ | h1
  · refine rc_yes hsz hnc ha ?_
    refine bl_X5_base_5 hG _ x2 S ?_
    rcases in_or x2 (n := gNc g) (by omega) with ⟨b, hb, rfl⟩ | h2
    · refine rc_yes hsz hnc hb ?_
      refine bl_X5_base_10 hG _ _ S (sp_c_baseOf hsz hnc (fun c q => (hc.2.2.1 c q).2.2.2) ha hb (base_ex hd ha hb) (fun i hi => ?_))
      refine bl_X5_base_19 hG _ _ _ S (fun S1' hs => ?_)
      have hm1 := jq hm hs
      refine ⟨Nat.le_of_ble_eq_true rfl, fun G hG => ?_⟩
      refine bl_X6_base_0 hG _ _ S1' (ic_yes hm1.1.2.1 hnc ha ?_)
      refine bl_X6_base_6 hG _ _ _ S1' ⟨fun z => absurd z (by decide), fun _ => ic_yes hm1.1.2.1 hnc hb ?_⟩
      refine bl_X6_base_14 hG _ _ _ S1' ⟨fun z => absurd z (by decide), fun _ S2 e2 => th_g e2 ?_⟩
      have k1 : S2 21 0 6 = nI (gNc g) := by rw [e2, su_j (by decide)]; exact hm1.1.2.1
      refine sp_m_baseOf k1 hnc (fun c q => by rw [e2, su_o (Or.inl (by decide))]; exact (hm1.2.2.1 c q).2.2.2) ha hb (base_ex hd ha hb) (fun j hj => ?_)
      refine bl_X6_base_38 hG _ _ _ S2 ⟨by rw [e2]; exact Jv_thr hd hc hm hs 0, by rw [e2, su_at], fun x hx => ?_⟩
      cases hx
      rw [isBase_one hi hj]
    · refine rc_no hsz h2 (fun S1' hs => ?_)
      have hm1 := jq hm hs
      refine ⟨Nat.le_of_ble_eq_true rfl, fun G hG => ?_⟩
      refine bl_X6_base_0 hG _ _ S1' (ic_yes hm1.1.2.1 hnc ha ?_)
      refine bl_X6_base_6 hG _ _ _ S1' ⟨fun z => absurd z (by decide), fun _ => ic_no hm1.1.2.1 h2 ?_⟩
      refine bl_X6_base_14 hG _ _ _ S1' ⟨fun _ S2 e2 => th_b e2 (by decide) ?_, fun z => absurd rfl z⟩
      rw [e2]; exact ⟨Jv_thr hd hc hm hs 1, su_at _ _ _ _ _⟩
  · refine rc_no hsz h1 (fun S1' hs => ?_)
    have hm1 := jq hm hs
    refine ⟨Nat.le_of_ble_eq_true rfl, fun G hG => ?_⟩
    refine bl_X6_base_0 hG _ _ S1' (ic_no hm1.1.2.1 h1 ?_)
    refine bl_X6_base_6 hG _ _ _ S1' ⟨fun _ S2 e2 => th_b e2 (by decide) ?_, fun z => absurd rfl z⟩
    rw [e2]; exact ⟨Jv_thr hd hc hm hs 1, su_at _ _ _ _ _⟩
theorem op_conflict {S : ab_S} {x1 : Int32} (hJ : Jv S) : Op2 Sp_X5_conflict [.inr (0, 0), .inl x1] Sp_X6_conflict [.inr (21, 0), .inl x1] cd1 S := by
  obtain ⟨g, hd, hc, hm⟩ := hJ
  have hk := hd.2.2.2.2.2.2
  refine ⟨Nat.le_of_ble_eq_true rfl, fun G hG => ?_⟩
  refine bl_X5_conflict_0 hG x1 S ?_
  rw [hc.2.2.2.1]
  have no : Out x1 (gKc g) → ∀ S1' : ab_S, (∀ a, a ≠ 41 → S1' a = S a) → Sp_X6_conflict [.inr (21, 0), .inl x1] S1' (fun o2 S2 => Jv S2 ∧ S2 21 0 0 = 1) := fun h S1' hs => by
    have hm1 := jq hm hs
    refine ⟨Nat.le_of_ble_eq_true rfl, fun G hG => ?_⟩
    refine bl_X6_conflict_0 hG x1 S1' ?_
    rw [hm1.2.2.2.1]
    have bad : ∀ S2, S2 = ab_su S1' 21 0 0 1 → (S2 21 0 0 = 0 → vp_in x1 24 ∧ (Jv S2 ∧ S2 21 0 0 = 1)) ∧ (¬ S2 21 0 0 = 0 → (Jv S2 ∧ S2 21 0 0 = 1)) := fun S2 e2 => th_b e2 (by decide) (by rw [e2]; exact ⟨Jv_thr hd hc hm hs 1, su_at _ _ _ _ _⟩)
    rcases h with h | h
    · exact ⟨fun _ => bad, fun z => absurd h z⟩
    · exact ⟨fun z => absurd z h.1, fun _ => ⟨fun z => absurd z h.2.2, fun _ => bad⟩⟩
  rcases in_or x1 (n := gKc g) (by omega) with ⟨k, hk2, rfl⟩ | h1
  · refine ⟨fun z => absurd z (nI_pos (by omega)), fun _ => ⟨fun _ => ⟨vp_in_nI (by omega) (by decide), fun S1' hs => ?_⟩, fun z => absurd (nI_lt hk2 (by omega)) z⟩⟩
    have hm1 := jq hm hs
    refine ⟨Nat.le_of_ble_eq_true rfl, fun G hG => ?_⟩
    refine bl_X6_conflict_0 hG _ S1' ?_
    rw [hm1.2.2.2.1, nI_clamp (by omega)]
    refine ⟨fun z => absurd z (nI_pos (by omega)), fun _ => ⟨fun _ S2 e2 => th_g e2 ⟨vp_in_nI (by omega) (by decide), by rw [e2]; exact Jv_thr hd hc hm hs 0, by rw [e2, su_at], fun x hx => ?_⟩, fun z => absurd (nI_lt hk2 (by omega)) z⟩⟩
    cases hx
    rw [e2, su_o (Or.inl (by decide)), hm1.2.2.2.2 k hk2, hc.2.2.2.2 k hk2]
  · have no' := no h1
    rcases h1 with h | h
    · exact ⟨fun _ => no', fun z => absurd h z⟩
    · exact ⟨fun z => absurd z h.1, fun _ => ⟨fun z => absurd z h.2.2, fun _ => no'⟩⟩
theorem op_state {S : ab_S} {x1 : Int32} (hJ : Jv S) : Op2 Sp_X5_state [.inr (0, 0), .inl x1] Sp_X6_state [.inr (21, 0), .inl x1] cd1 S := by
  obtain ⟨g, hd, hc, hm⟩ := hJ
  refine ⟨Nat.le_of_ble_eq_true rfl, fun G hG => ?_⟩
  refine bl_X5_state_0 hG x1 S (bl_X5_state_1 hG x1 x1 S ?_)
  have yes : ∀ v, ¬ x1 < 0 → x1 ≤ 2 → ((x1 = 0 ∧ v = nI (gNc g)) ∨ (x1 = 1 ∧ v = nI (gHead g)) ∨ (x1 = 2 ∧ v = gTk g)) → ∀ S1' : ab_S, (∀ a, a ≠ 41 → S1' a = S a) → Sp_X6_state [.inr (21, 0), .inl x1] S1' (fun o2 S2 => Jv S2 ∧ S2 21 0 0 = 0 ∧ ∀ x, some v = some x → o2 = .inl (some x)) := fun v h0 h2 hv S1' hs => by
    have hm1 := jq hm hs
    refine ⟨Nat.le_of_ble_eq_true rfl, fun G hG => ?_⟩
    refine bl_X6_state_0 hG x1 S1' ⟨fun z => absurd z h0, fun _ => ⟨fun _ S2 e2 => th_g' e2 ?_, fun z => absurd h2 z⟩⟩
    have fin : ∀ w, v = w → (Jv S2 ∧ S2 21 0 0 = 0 ∧ ∀ x, some v = some x → (.inl (some w) : Option Int32 ⊕ Nat) = .inl (some x)) := fun w hw => ⟨by rw [e2]; exact Jv_thr hd hc hm hs 0, by rw [e2, su_at], fun x hx => by cases hx; rw [hw]⟩
    rcases hv with ⟨rfl, hv⟩ | ⟨rfl, hv⟩ | ⟨rfl, hv⟩
    · exact ⟨fun _ => fin _ (by rw [e2, su_j (by decide), hm1.1.2.1, hv]), fun z => absurd rfl z⟩
    · exact ⟨fun z => absurd z (by decide), fun _ => ⟨fun _ => fin _ (by rw [e2, su_j (by decide), hm1.1.2.2.1, hv]), fun z => absurd rfl z⟩⟩
    · exact ⟨fun z => absurd z (by decide), fun _ => ⟨fun z => absurd z (by decide), fun _ => fin _ (by rw [e2, su_j (by decide), hm1.1.2.2.2, hv])⟩⟩
  refine ⟨fun e => bl_X5_state_28 hG x1 S ?_, fun e => bl_X5_state_36 hG x1 S ?_, fun e => bl_X5_state_41 hG x1 S ?_, fun n0 n1 n2 => bl_X5_state_46 hG x1 S ?_⟩
  · rw [hc.1.2.2.2]; subst e; exact yes _ (by decide) (by decide) (Or.inl ⟨rfl, rfl⟩)
  · rw [hc.1.2.1]; subst e; exact yes _ (by decide) (by decide) (Or.inr (Or.inl ⟨rfl, rfl⟩))
  · rw [hc.1.2.2.1]; subst e; exact yes _ (by decide) (by decide) (Or.inr (Or.inr ⟨rfl, rfl⟩))
  · intro S1' hs
    refine ⟨Nat.le_of_ble_eq_true rfl, fun G hG => ?_⟩
    refine bl_X6_state_0 hG x1 S1' ⟨fun _ S2 e2 => th_b' e2 (by decide) (by rw [e2]; exact ⟨Jv_thr hd hc hm hs 1, su_at _ _ _ _ _⟩), fun h0 => ⟨fun h2 => ?_, fun _ S2 e2 => th_b' e2 (by decide) (by rw [e2]; exact ⟨Jv_thr hd hc hm hs 1, su_at _ _ _ _ _⟩)⟩⟩
    exfalso
    obtain ⟨j, hj, rfl⟩ := nI_of2 (n := 2) (by decide) h0 h2
    rcases (by omega : j = 0 ∨ j = 1 ∨ j = 2) with q | q | q
    · subst q; exact n0 rfl
    · subst q; exact n1 rfl
    · subst q; exact n2 rfl
theorem op_above {S : ab_S} {x1 x2 : Int32} (hJ : Jv S) : Op2 Sp_X5_above [.inr (0, 0), .inl x1, .inl x2] Sp_X6_above [.inr (21, 0), .inl x1, .inl x2] cd12 S := by
  obtain ⟨g, hd, hc, hm⟩ := hJ
  have hnc := hd.2.1.2
  have hsz := hc.1.2.2.2
  refine ⟨Nat.le_of_ble_eq_true rfl, fun G hG => ?_⟩
  refine bl_X5_above_0 hG x1 x2 S ?_
  rcases in_or x1 (n := gNc g) (by omega) with ⟨a, ha, rfl⟩ | h1
  · refine rc_yes hsz hnc ha ?_
    refine bl_X5_above_5 hG _ x2 S (sp_c_reqPlace (m := 1) (by decide) (fun z S1' hs => ?_) (fun k hk e => ?_))
    · have hm1 := jq hm hs
      refine ⟨Nat.le_of_ble_eq_true rfl, fun G hG => ?_⟩
      refine bl_X6_above_0 hG _ _ S1' (ic_yes hm1.1.2.1 hnc ha ?_)
      refine bl_X6_above_6 hG _ _ _ S1' ⟨fun z => absurd z (by decide), fun _ => ⟨fun _ S2 e2 => th_b' e2 (by decide) (by rw [e2]; exact ⟨Jv_thr hd hc hm hs 2, su_at _ _ _ _ _⟩), fun h0 => ⟨fun h2 => ?_, fun _ S2 e2 => th_b' e2 (by decide) (by rw [e2]; exact ⟨Jv_thr hd hc hm hs 2, su_at _ _ _ _ _⟩)⟩⟩⟩
      exfalso
      obtain ⟨j, hj, rfl⟩ := nI_of2 (n := 1) (by decide) h0 h2
      exact z j hj rfl
    · refine bl_X5_above_10 hG _ x2 S ?_
      rw [nI_clamp (by omega)]
      have yes : ∀ v, ((x2 = 0 ∧ v = gFp g a) ∨ (¬ x2 = 0 ∧ v = gSq g a)) → ∀ S1' : ab_S, (∀ a, a ≠ 41 → S1' a = S a) → Sp_X6_above [.inr (21, 0), .inl (nI a), .inl x2] S1' (fun o2 S2 => Jv S2 ∧ S2 21 0 0 = 0 ∧ ∀ x, some v = some x → o2 = .inl (some x)) := fun v hv S1' hs => by
        have hm1 := jq hm hs
        refine ⟨Nat.le_of_ble_eq_true rfl, fun G hG => ?_⟩
        refine bl_X6_above_0 hG _ _ S1' (ic_yes hm1.1.2.1 hnc ha ?_)
        refine bl_X6_above_6 hG _ _ _ S1' ⟨fun z => absurd z (by decide), fun _ => ⟨fun y => absurd y (by rw [e]; exact nI_pos (by omega)), fun _ => ⟨fun _ S2 e2 => th_g' e2 ?_, fun y => absurd (by rw [e]; exact nI_le (b := 1) hk (by decide)) y⟩⟩⟩
        rw [nI_clamp (by omega)]
        have fin : ∀ w, v = w → (Jv S2 ∧ S2 21 0 0 = 0 ∧ ∀ x, some v = some x → (.inl (some w) : Option Int32 ⊕ Nat) = .inl (some x)) := fun w hw => ⟨by rw [e2]; exact Jv_thr hd hc hm hs 0, by rw [e2, su_at], fun x hx => by cases hx; rw [hw]⟩
        rcases hv with ⟨h0, hv⟩ | ⟨h0, hv⟩
        · exact ⟨fun _ => ⟨vp_in_nI (by omega) (by decide), fin _ (by rw [e2, su_o (Or.inl (by decide)), (hm1.2.2.1 a ha).2.1, hv])⟩, fun z => absurd h0 z⟩
        · exact ⟨fun z => absurd z h0, fun _ => ⟨vp_in_nI (by omega) (by decide), fin _ (by rw [e2, su_o (Or.inl (by decide)), (hm1.2.2.1 a ha).2.2.1, hv])⟩⟩
      refine ⟨fun h0 => ⟨vp_in_nI (by omega) (by decide), ?_⟩, fun h0 => ⟨vp_in_nI (by omega) (by decide), ?_⟩⟩
      · rw [(hc.2.2.1 a ha).2.1]; exact yes _ (Or.inl ⟨h0, rfl⟩)
      · rw [(hc.2.2.1 a ha).2.2.1]; exact yes _ (Or.inr ⟨h0, rfl⟩)
  · refine rc_no hsz h1 (fun S1' hs => ?_)
    have hm1 := jq hm hs
    refine ⟨Nat.le_of_ble_eq_true rfl, fun G hG => ?_⟩
    refine bl_X6_above_0 hG _ _ S1' (ic_no hm1.1.2.1 h1 ?_)
    refine bl_X6_above_6 hG _ _ _ S1' ⟨fun _ S2 e2 => th_b' e2 (by decide) ?_, fun z => absurd rfl z⟩
    rw [e2]; exact ⟨Jv_thr hd hc hm hs 1, su_at _ _ _ _ _⟩
theorem op_nodes {S : ab_S} {x1 : Int32} (hJ : Jv S) : Op2 Sp_X5_nodes [.inr (0, 0), .inl x1] Sp_X6_nodes [.inr (21, 0), .inl x1] cd1 S := by
  obtain ⟨g, hd, hc, hm⟩ := hJ
  have hw := hd.2.2.2.2.1
  refine ⟨Nat.le_of_ble_eq_true rfl, fun G hG => ?_⟩
  refine bl_X5_nodes_0 hG x1 S ?_
  have yes : ∀ v, ((x1 = 0 ∧ v = nI (gW g).1) ∨ (¬ x1 = 0 ∧ v = nI (gMade g))) → ∀ S1' : ab_S, (∀ a, a ≠ 41 → S1' a = S a) → Sp_X6_nodes [.inr (21, 0), .inl x1] S1' (fun o2 S2 => Jv S2 ∧ S2 21 0 0 = 0 ∧ ∀ x, some v = some x → o2 = .inl (some x)) := fun v hv S1' hs => by
    have hm1 := jq hm hs
    refine ⟨Nat.le_of_ble_eq_true rfl, fun G hG => ?_⟩
    refine bl_X6_nodes_0 hG x1 S1' (fun S2 e2 => ?_)
    have hT2 : MTd S2 12 (gW g) := by rw [e2]; exact MTd.su hm1.2.1
    refine sp_m_walk (u := 12) hw.1 hT2 (by decide) (fun S3 w1 w2 w3 => ?_)
    have hof : OffT S1' S3 := OffT.tr (by rw [e2]; exact OffT.su (by decide)) w1.t
    have h5 : S3 21 0 5 = S1' 21 0 5 := by rw [w1.2 5 (by decide) (by decide), e2, su_j (by decide)]
    have h0 : S3 21 0 0 = 0 := by rw [w1.2 0 (by decide) (by decide), e2, su_at]
    have hJ3 : Jv S3 := Jv_offT hd hc hm hs hof h5 (w1.tm hT2)
    refine bl_X6_nodes_11 hG x1 S3 ?_
    rw [w2, h5, hm1.1.1]
    rcases hv with ⟨hx, rfl⟩ | ⟨hx, rfl⟩
    · exact ⟨fun _ => ⟨hJ3, h0, fun x hx => by cases hx; rfl⟩, fun z => absurd hx z⟩
    · exact ⟨fun z => absurd z hx, fun _ => ⟨hJ3, h0, fun x hx => by cases hx; rfl⟩⟩
  rw [hc.2.1.1.1, hc.1.1]
  exact ⟨fun h => yes _ (Or.inl ⟨h, rfl⟩), fun h => yes _ (Or.inr ⟨h, rfl⟩)⟩
theorem sp_m_numberOf {Q : ab_Po} {S : ab_S} {made s : Nat} {d : sD} (hk : Okd made d) (h : MTd S 12 d) (hs : s < d.1) (hQ : ∀ S', OffW S S' → Q (.inl (some (nI s))) S') : Sp_X6_numberOf [.inr (21, 0), .inl (nI (d.2.1 s))] S Q := by
  refine ⟨Nat.le_of_ble_eq_true rfl, fun G hG => ?_⟩
  have hn := hk.1.2.1
  refine bl_X6_numberOf_0 hG _ S (sp_m_walk (u := 12) hk.1 h (by decide) (fun S1 w1 w2 w3 => ?_))
  refine bl_X6_numberOf_6 hG _ S1 ?_
  have key : ∀ k, k ≤ s → G 8 [some (.inr (21, 0)), some (.inl (nI (d.2.1 s))), some (.inl (nI k))] [] S1 0 := by
    refine ind_up _ ?_ ?_
    · refine bl_X6_numberOf_8 hG _ _ S1 ⟨vp_in_nI (by omega) (by decide), ?_⟩
      rw [nI_clamp (by omega), w3 s hs]
      exact ⟨fun _ => hQ S1 w1, fun z => absurd rfl z⟩
    · intro k hks ih
      refine bl_X6_numberOf_8 hG _ _ S1 ⟨vp_in_nI (by omega) (by decide), ?_⟩
      rw [nI_clamp (by omega), w3 k (by omega), nI_1]
      have a := hk.1.2.2.2.1 k (by omega)
      have b := hk.1.2.2.2.1 s hs
      refine ⟨fun z => ?_, fun _ => ih⟩
      have := hk.1.2.2.2.2.1 k s (by omega) hs ((nI_eq (by omega) (by omega)).mp z)
      omega
  exact key 0 (by omega)
theorem op_about {S : ab_S} {x1 x2 : Int32} (hJ : Jv S) : Op2 Sp_X5_about [.inr (0, 0), .inl x1, .inl x2] Sp_X6_about [.inr (21, 0), .inl x1, .inl x2] cd12 S := by
  obtain ⟨g, hd, hc, hm⟩ := hJ
  have hw := hd.2.2.2.2.1
  have hS := hw.1
  refine ⟨Nat.le_of_ble_eq_true rfl, fun G hG => ?_⟩
  refine bl_X5_about_0 hG x1 x2 S (sp_c_reqNode hw hc.2.1 (fun z S1' hs => ?_) (fun s hs1 e1 => ?_))
  · refine ⟨Nat.le_of_ble_eq_true rfl, fun G hG => ?_⟩
    refine bl_X6_about_0 hG x1 x2 S1' (sp_m_hasIn (u := 12) (by decide) hw (jq hm hs).2.1 (fun _ => ?_) (fun t ht e => not_in ht e z))
    exact bl_X6_about_8 hG x1 x2 _ S1' ⟨fun _ S2 e2 => th_b' e2 (by decide) (by rw [e2]; exact ⟨Jv_thr hd hc hm hs 1, su_at _ _ _ _ _⟩), fun y => absurd rfl y⟩
  have o24 := hS.2.2.2.1 s hs1
  refine bl_X5_about_5 hG x1 x2 S (bl_X5_about_6 hG x1 x2 x2 S ?_)
  have yes : ∀ v, ¬ x2 < 0 → x2 ≤ 3 → ((x2 = 0 ∧ v = S 8 0 ((gW g).2.1 s)) ∨ (x2 = 1 ∧ v = S 7 0 ((gW g).2.1 s)) ∨ (x2 = 2 ∧ v = nI (ck (gW g).2.2.1 s (gW g).1)) ∨ (x2 = 3 ∧ v = nI s)) → ∀ S1' : ab_S, (∀ a, a ≠ 41 → S1' a = S a) → Sp_X6_about [.inr (21, 0), .inl x1, .inl x2] S1' (fun o2 S2 => Jv S2 ∧ S2 21 0 0 = 0 ∧ ∀ x, some v = some x → o2 = .inl (some x)) := fun v p0 p3 hv S1' hs => by
    have hm1 := jq hm hs
    refine ⟨Nat.le_of_ble_eq_true rfl, fun G2 hG2 => ?_⟩
    refine bl_X6_about_0 hG2 x1 x2 S1' (sp_m_hasIn (u := 12) (by decide) hw hm1.2.1 (fun z => not_in hs1 e1 z) (fun t ht e => ?_))
    refine bl_X6_about_8 hG2 x1 x2 _ S1' ⟨fun z => absurd z (by decide), fun _ => ⟨fun z => absurd z p0, fun _ => ⟨fun _ S2 e2 => th_g' e2 ?_, fun z => absurd p3 z⟩⟩⟩
    have hT2 : MTd S2 12 (gW g) := by rw [e2]; exact MTd.su hm1.2.1
    have fin : ∀ w, v = w → (Jv S2 ∧ S2 21 0 0 = 0 ∧ ∀ x, some v = some x → (.inl (some w) : Option Int32 ⊕ Nat) = .inl (some x)) := fun w hw => ⟨by rw [e2]; exact Jv_thr hd hc hm hs 0, by rw [e2, su_at], fun x hx => by cases hx; rw [hw]⟩
    subst e1
    rw [m288, nI_clamp (by omega)]
    rcases hv with ⟨rfl, hv⟩ | ⟨rfl, hv⟩ | ⟨rfl, hv⟩ | ⟨rfl, hv⟩
    · exact ⟨fun _ => ⟨vp_in_nI (by omega) (by decide), fin _ (by rw [hv, (hT2.1 s hs1).2, (hc.2.1.1.2.1 s hs1).2.2])⟩, fun z => absurd rfl z⟩
    · refine ⟨fun z => absurd z (by decide), fun _ => ⟨fun _ => ⟨vp_in_nI (by omega) (by decide), fin _ ?_⟩, fun z => absurd rfl z⟩⟩
      rw [hv]
      rcases Nat.eq_zero_or_pos s with q | q
      · subst q; rw [hS.2.2.1, hc.2.1.1.2.2.1]; exact hT2.2.1.1.symm
      · rw [hc.2.1.1.2.2.2 s q hs1, (hT2.2.2.1 s q hs1).1]
    · refine ⟨fun z => absurd z (by decide), fun _ => ⟨fun z => absurd z (by decide), fun _ => ⟨fun _ => ?_, fun z => absurd rfl z⟩⟩⟩
      refine sp_m_children (u := 12) hS hT2 (by decide) hs1 ?_
      exact bl_X6_about_88 hG2 _ _ _ S2 (fin _ hv)
    · refine ⟨fun z => absurd z (by decide), fun _ => ⟨fun z => absurd z (by decide), fun _ => ⟨fun z => absurd z (by decide), fun _ => ?_⟩⟩⟩
      refine sp_m_numberOf hw hT2 hs1 (fun S3 w1 => ?_)
      refine bl_X6_about_96 hG2 _ _ _ S3 ⟨?_, ?_, fun x hx => by cases hx; rw [hv]⟩
      · exact Jv_offT hd hc hm hs (OffT.tr (by rw [e2]; exact OffT.su (by decide)) w1.t) (by rw [w1.2 5 (by decide) (by decide), e2, su_j (by decide)]) (w1.tm hT2)
      · rw [w1.2 0 (by decide) (by decide), e2, su_at]
  have x1n : x1 = nI ((gW g).2.1 s) := e1
  refine ⟨fun e => bl_X5_about_36 hG x1 x2 S ?_, fun e => bl_X5_about_46 hG x1 x2 S ?_, fun e => bl_X5_about_56 hG x1 x2 S ?_, fun e => bl_X5_about_65 hG x1 x2 S ?_, fun n0 n1 n2 n3 => bl_X5_about_75 hG x1 x2 S ?_⟩
  · refine ⟨by rw [x1n]; exact vp_in_nI (by omega) (by decide), ?_⟩
    have := yes _ (by rw [e]; decide) (by rw [e]; decide) (Or.inl ⟨e, rfl⟩)
    rw [x1n, nI_clamp (by omega)]; rw [x1n] at this; exact this
  · refine ⟨by rw [x1n]; exact vp_in_nI (by omega) (by decide), ?_⟩
    have := yes _ (by rw [e]; decide) (by rw [e]; decide) (Or.inr (Or.inl ⟨e, rfl⟩))
    rw [x1n, nI_clamp (by omega)]; rw [x1n] at this; exact this
  · have := yes _ (by rw [e]; decide) (by rw [e]; decide) (Or.inr (Or.inr (Or.inl ⟨e, rfl⟩)))
    subst x1n
    exact sp_childCount (hc.2.1.1.rw hS) (hc.2.1.1.pa hS) hs1 (bl_X5_about_64 hG _ x2 _ S this)
  · refine ⟨by rw [x1n]; exact vp_in_nI (by omega) (by decide), ?_⟩
    have := yes _ (by rw [e]; decide) (by rw [e]; decide) (Or.inr (Or.inr (Or.inr ⟨e, rfl⟩)))
    rw [x1n, nI_clamp (by omega), (hc.2.1.1.2.1 s hs1).2.1]; rw [x1n] at this; exact this
  · intro S1' hs
    refine ⟨Nat.le_of_ble_eq_true rfl, fun G hG => ?_⟩
    refine bl_X6_about_0 hG x1 x2 S1' (sp_m_hasIn (u := 12) (by decide) hw (jq hm hs).2.1 (fun z => not_in hs1 e1 z) (fun t ht e => ?_))
    refine bl_X6_about_8 hG x1 x2 _ S1' ⟨fun z => absurd z (by decide), fun _ => ⟨fun _ S2 e2 => th_b' e2 (by decide) (by rw [e2]; exact ⟨Jv_thr hd hc hm hs 2, su_at _ _ _ _ _⟩), fun h0 => ⟨fun h2 => ?_, fun _ S2 e2 => th_b' e2 (by decide) (by rw [e2]; exact ⟨Jv_thr hd hc hm hs 2, su_at _ _ _ _ _⟩)⟩⟩⟩
    exfalso
    obtain ⟨j, hj, rfl⟩ := nI_of2 (n := 3) (by decide) h0 h2
    rcases (by omega : j = 0 ∨ j = 1 ∨ j = 2 ∨ j = 3) with q | q | q | q
    · subst q; exact n0 rfl
    · subst q; exact n1 rfl
    · subst q; exact n2 rfl
    · subst q; exact n3 rfl
theorem op_child {S : ab_S} {x1 x2 : Int32} (hJ : Jv S) : Op2 Sp_X5_child [.inr (0, 0), .inl x1, .inl x2] Sp_X6_child [.inr (21, 0), .inl x1, .inl x2] cd12 S := by
  obtain ⟨g, hd, hc, hm⟩ := hJ
  have hw := hd.2.2.2.2.1
  have hS := hw.1
  have hL := hS.2.2.2.2.2
  refine ⟨Nat.le_of_ble_eq_true rfl, fun G hG => ?_⟩
  refine bl_X5_child_0 hG x1 x2 S (sp_c_reqNode hw hc.2.1 (fun z S1' hs => ?_) (fun s hs1 e1 => ?_))
  · refine ⟨Nat.le_of_ble_eq_true rfl, fun G hG => ?_⟩
    refine bl_X6_child_0 hG x1 x2 S1' (sp_m_hasIn (u := 12) (by decide) hw (jq hm hs).2.1 (fun _ => ?_) (fun t ht e => not_in ht e z))
    exact bl_X6_child_8 hG x1 x2 _ S1' ⟨fun _ S2 e2 => th_b e2 (by decide) (by rw [e2]; exact ⟨Jv_thr hd hc hm hs 1, su_at _ _ _ _ _⟩), fun y => absurd rfl y⟩
  have o24 := hS.2.2.2.1 s hs1
  have hn := hS.2.1
  have hckl := ck_le (pp := (gW g).2.2.1) (s := s) (gW g).1
  subst e1
  refine bl_X5_child_5 hG _ x2 S (sp_childCount (hc.2.1.1.rw hS) (hc.2.1.1.pa hS) hs1 ?_)
  refine bl_X5_child_14 hG _ x2 _ _ S ?_
  have no : (∀ k, k < ck (gW g).2.2.1 s (gW g).1 → x2 ≠ nI k) → ∀ S1' : ab_S, (∀ a, a ≠ 41 → S1' a = S a) → Sp_X6_child [.inr (21, 0), .inl (nI ((gW g).2.1 s)), .inl x2] S1' (fun o2 S2 => Jv S2 ∧ S2 21 0 0 = 2) := fun z S1' hs => by
    refine ⟨Nat.le_of_ble_eq_true rfl, fun G hG => ?_⟩
    refine bl_X6_child_0 hG _ x2 S1' (sp_m_hasIn (u := 12) (by decide) hw (jq hm hs).2.1 (fun z => not_in hs1 rfl z) (fun t ht e => ?_))
    have bad : ∀ S2, S2 = ab_su S1' 21 0 0 2 → Jv S2 ∧ S2 21 0 0 = 2 := fun S2 e2 => by rw [e2]; exact ⟨Jv_thr hd hc hm hs 2, su_at _ _ _ _ _⟩
    refine bl_X6_child_8 hG _ x2 _ S1' ⟨fun z => absurd z (by decide), fun _ => ⟨fun _ S2 e2 => th_b e2 (by decide) (bad S2 e2), fun h0 => ?_⟩⟩
    refine sp_m_children (u := 12) hS (jq hm hs).2.1 (by decide) hs1 ?_
    refine bl_X6_child_27 hG _ x2 _ _ S1' ⟨fun h2 => ?_, fun _ S2 e2 => th_b e2 (by decide) (bad S2 e2)⟩
    exfalso
    obtain ⟨j, hj, rfl⟩ := nI_of h0
    exact z j ((nI_ltI hj (by omega)).mp h2) rfl
  have done : ∀ k, k < ck (gW g).2.2.1 s (gW g).1 → x2 = nI k → G 19 [some (.inr (0, 0)), some (.inl (nI ((gW g).2.1 s))), some (.inl x2)] [] S 2 := fun k hk e2 => by
    subst e2
    refine bl_X5_child_19 hG _ _ S (sp_slotFor (hc.2.1.1.rw hS) (hc.2.1.1.pa hS) hs1 (by omega) (fun i hi => ?_))
    rcases hi with ⟨h1, h2, h3, h4⟩ | h5
    · refine bl_X5_child_35 hG _ _ _ S ⟨vp_in_nI (by omega) (by decide), ?_⟩
      rw [nI_clamp (by omega), (hc.2.1.1.2.1 i h2).1]
      intro S1' hs
      refine ⟨Nat.le_of_ble_eq_true rfl, fun G hG => ?_⟩
      refine bl_X6_child_0 hG _ _ S1' (sp_m_hasIn (u := 12) (by decide) hw (jq hm hs).2.1 (fun z => not_in hs1 rfl z) (fun t ht e => ?_))
      refine bl_X6_child_8 hG _ _ _ S1' ⟨fun z => absurd z (by decide), fun _ => ⟨fun z => absurd z (nI_pos (by omega)), fun h0 => ?_⟩⟩
      refine sp_m_children (u := 12) hS (jq hm hs).2.1 (by decide) hs1 ?_
      refine bl_X6_child_27 hG _ _ _ _ S1' ⟨fun _ S2 e2 => th_g e2 ?_, fun z => absurd (nI_lt hk (by omega)) z⟩
      have hT2 : MTd S2 12 (gW g) := by rw [e2]; exact MTd.su (jq hm hs).2.1
      have := sp_m_childAt (Q := ab_back (fun o2 S2 => Jv S2 ∧ S2 21 0 0 = 0 ∧ ∀ x, some (nI ((gW g).2.1 i)) = some x → o2 = .inl (some x)) G 53 [some (.inr (21, 0)), some (.inl (nI ((gW g).2.1 s))), some (.inl (nI k))] [] 0) (u := 12) hS hT2 (by decide) hs1 (by omega) h2 h3 (bl_X6_child_53 hG _ _ _ S2 ⟨by rw [e2]; exact Jv_thr hd hc hm hs 0, by rw [e2, su_at], fun x hx => by cases hx; rfl⟩)
      rw [h4] at this
      exact this
    · omega
  rcases Nat.eq_zero_or_pos (ck (gW g).2.2.1 s (gW g).1) with q | q
  · rw [q]
    exact sp_c_reqPlaceM (no (fun k hk => by omega))
  · rw [show ck (gW g).2.2.1 s (gW g).1 = ck (gW g).2.2.1 s (gW g).1 - 1 + 1 by omega, nI_pred]
    exact sp_c_reqPlace (by omega) (fun z => no (fun k hk => z k (by omega))) (fun k hk e => done k (by omega) e)
