/-! The model's trees: tree u at 24 u; the same shapes. -/
theorem mi (u v : Nat) : ((24 : Int32) * nI u) + nI v = nI (24 * u + v) := by
  rw [show (24 : Int32) = nI 24 from rfl, pk_mul, nI_add]
def TM (S : ab_S) (u n : Nat) (o pp : Nat → Nat) (lb : Nat → Int32) : Prop := (∀ i, i < n → S 22 0 (24 * u + o i) = 1 ∧ S 23 0 (24 * u + o i) = lb (o i)) ∧ (S 24 0 (24 * u) = -1 ∧ S 25 0 (24 * u) = 0) ∧ (∀ i, 0 < i → i < n → S 24 0 (24 * u + o i) = nI (o (pp i)) ∧ S 25 0 (24 * u + o i) = nI (ck pp (pp i) i)) ∧ ∀ v, v < 24 → (∀ i, i < n → o i ≠ v) → S 22 0 (24 * u + v) = 0
/-- whether v is a child of p in the model's tree u -/
def ich (S : ab_S) (u v : Nat) (p : Int32) : Bool := decide (¬ S 22 0 (24 * u + v) = 0 ∧ S 24 0 (24 * u + v) = p)
theorem sp_m_has {Q : ab_Po} {S : ab_S} {u : Nat} {x : Int32} (hu : u < 14) (hQ : Q (.inl (some (if x < 0 then 0 else if 24 ≤ x then 0 else if S 22 0 (24 * u + x.toNatClampNeg) = 0 then 0 else 1))) S) : Sp_X6_has [.inr (21, 0), .inl (nI u), .inl x] S Q := by
  refine ⟨Nat.le_of_ble_eq_true rfl, fun G hG => ?_⟩
  refine bl_X6_has_0 hG (nI u) x S ?_
  refine ⟨fun h => by rw [if_pos h] at hQ; exact hQ, fun h => ⟨fun h2 => by rw [if_neg h, if_pos h2] at hQ; exact hQ, fun h2 => ?_⟩⟩
  obtain ⟨j, hj, rfl⟩ := vp_in_of (lt24 h h2) (by decide)
  rw [if_neg h, if_neg h2, nI_clamp (by omega)] at hQ
  rw [mi, nI_clamp (by omega)]
  exact ⟨vp_in_nI (by omega) (by decide), fun h3 => by rw [if_pos h3] at hQ; exact hQ, fun h3 => by rw [if_neg h3] at hQ; exact hQ⟩
theorem sp_m_isChild {Q : ab_Po} {S : ab_S} {u v : Nat} {p : Int32} (hu : u < 14) (hv : v < 24) (hQ : Q (.inl (some (if ich S u v p then 1 else 0))) S) : Sp_X6_isChild [.inr (21, 0), .inl (nI u), .inl (nI v), .inl p] S Q := by
  refine ⟨Nat.le_of_ble_eq_true rfl, fun G hG => ?_⟩
  refine bl_X6_isChild_0 hG (nI u) (nI v) p S ?_
  rw [mi, nI_clamp (by omega)]
  unfold ich at hQ
  refine ⟨vp_in_nI (by omega) (by decide), fun h => ?_, fun h => ⟨vp_in_nI (by omega) (by decide), fun h2 => ?_, fun h2 => ?_⟩⟩
  · rw [if_neg (by simp [h])] at hQ; exact hQ
  · rw [if_pos (by simp [h, h2])] at hQ; exact hQ
  · rw [if_neg (by simp [h2])] at hQ; exact hQ
theorem sp_m_children0 {Q : ab_Po} {S : ab_S} {u : Nat} {p : Int32} (hu : u < 14) (hQ : Q (.inl (some (nI (fb_ct (fun v => ich S u v p) 24)))) S) : Sp_X6_children [.inr (21, 0), .inl (nI u), .inl p] S Q := by
  refine ⟨Nat.le_of_ble_eq_true rfl, fun G hG => ?_⟩
  refine bl_X6_children_0 hG (nI u) p S ?_
  have key : ∀ i, i ≤ 24 → G 5 [some (.inr (21, 0)), some (.inl (nI u)), some (.inl p), some (.inl (nI (fb_ct (fun v => ich S u v p) i))), some (.inl (nI i))] [] S 0 := by
    refine ind_up _ ?_ ?_
    · exact bl_X6_children_5 hG _ _ _ _ S (pk_le 24 24 (fun _ => hQ) (fun h => by omega))
    · intro i hi ih
      refine bl_X6_children_5 hG _ _ _ _ S (pk_le 24 i (fun h => by omega) (fun _ => ?_))
      refine sp_m_isChild hu hi ?_
      refine bl_X6_children_20 hG _ _ _ _ _ S ?_
      rw [fb_ct_succ] at ih
      rw [nI_1, nI_1]
      by_cases c : ich S u i p = true
      · rw [if_pos c]
        rw [if_pos c] at ih
        exact ⟨fun h => absurd h (by decide), fun _ => ih⟩
      · rw [if_neg c]
        rw [if_neg c] at ih
        exact ⟨fun _ => ih, fun h => absurd rfl h⟩
  exact key 0 (by omega)
/-- the children of the node at s among the first m spots, by their numbers -/
def gch (o pp : Nat → Nat) (s : Nat) : Nat → Nat → Bool
  | 0, _ => false
  | m + 1, v => if v = o m then decide (0 < m ∧ pp m = s) else gch o pp s m v
theorem gch_no {o pp : Nat → Nat} {s : Nat} : ∀ m v, (∀ i, i < m → o i ≠ v) → gch o pp s m v = false
  | 0, _, _ => rfl
  | m + 1, v, h => by
    unfold gch
    rw [if_neg (fun e => h m (by omega) e.symm)]
    exact gch_no m v (fun i hi => h i (by omega))
theorem gch_at {o pp : Nat → Nat} {s i : Nat} : ∀ m, i < m → (∀ j, j < m → o j = o i → j = i) → gch o pp s m (o i) = decide (0 < i ∧ pp i = s)
  | 0, h, _ => by omega
  | m + 1, h, hi => by
    unfold gch
    by_cases e : i = m
    · subst e; rw [if_pos rfl]
    · rw [if_neg (fun q => e (hi m (by omega) q.symm).symm)]
      exact gch_at m (by omega) (fun j hj => hi j (by omega))
theorem gch_ct {n : Nat} {o pp : Nat → Nat} {s : Nat} (h24 : ∀ i, i < n → o i < 24) (hinj : ∀ i j, i < n → j < n → o i = o j → i = j) : ∀ m, m ≤ n → fb_ct (gch o pp s m) 24 = ck pp s m
  | 0, _ => by
    rw [show gch o pp s 0 = fun _ => false from rfl]
    exact fb_ct_zero.mpr (fun _ _ => rfl)
  | m + 1, hm => by
    have ih := gch_ct (pp := pp) (s := s) h24 hinj m (by omega)
    have hu := fb_ct_upd (gch o pp s m) (decide (0 < m ∧ pp m = s)) (i := o m) (n := 24) (h24 m (by omega))
    rw [gch_no m (o m) (fun i hi e => by have := hinj i m (by omega) (by omega) e; omega)] at hu
    rw [show gch o pp s (m + 1) = fun k => if k = o m then decide (0 < m ∧ pp m = s) else gch o pp s m k from rfl]
    rw [ih] at hu
    simp only [ck]
    simp only [decide_eq_true_eq] at hu
    simpa using hu
theorem TM.kid {S : ab_S} {u n : Nat} {o pp : Nat → Nat} {lb : Nat → Int32} (hS : Sh n o pp) (h : TM S u n o pp lb) {s : Nat} (hs : s < n) : ∀ v, v < 24 → ich S u v (nI (o s)) = gch o pp s n v := by
  intro v hv
  unfold ich
  have hn := hS.2.1
  by_cases q : ∃ i, i < n ∧ o i = v
  · obtain ⟨i, hi, rfl⟩ := q
    rw [gch_at n hi (fun j hj e => hS.2.2.2.2.1 j i hj hi e), (h.1 i hi).1]
    by_cases i0 : 0 < i
    · have hp := hS.2.2.2.2.2.1 i i0 hi
      have b1 := hS.2.2.2.1 (pp i) (by omega)
      have b2 := hS.2.2.2.1 s hs
      rw [(h.2.2.1 i i0 hi).1]
      apply decide_eq_decide.mpr
      constructor
      · intro z
        exact ⟨i0, hS.2.2.2.2.1 _ _ (by omega) hs ((nI_eq (by omega) (by omega)).mp z.2)⟩
      · intro z
        exact ⟨by decide, by rw [z.2]⟩
    · have e0 : i = 0 := by omega
      subst e0
      rw [hS.2.2.1, Nat.add_zero, h.2.1.1]
      have b2 := hS.2.2.2.1 s hs
      have : ¬ (-1 : Int32) = nI (o s) := fun z => nu_ne (i := o s) (c := -1) (by omega) (by decide) z.symm
      simp [this]
  · rw [gch_no n v (fun i hi e => q ⟨i, hi, e⟩), h.2.2.2 v hv (fun i hi e => q ⟨i, hi, e⟩)]
    simp
theorem TM.cnt {S : ab_S} {u n : Nat} {o pp : Nat → Nat} {lb : Nat → Int32} (hS : Sh n o pp) (h : TM S u n o pp lb) {s : Nat} (hs : s < n) : fb_ct (fun v => ich S u v (nI (o s))) 24 = ck pp s n := by
  rw [fb_ct_cong (fun v hv => h.kid hS hs v hv)]
  exact gch_ct hS.2.2.2.1 hS.2.2.2.2.1 n (Nat.le_refl _)
