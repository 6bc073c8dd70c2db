theorem sp_m_children {Q : ab_Po} {S : ab_S} {u n s : Nat} {o pp : Nat → Nat} {lb : Nat → Int32} (hS : Sh n o pp) (h : TM S u n o pp lb) (hu : u < 14) (hs : s < n) (hQ : Q (.inl (some (nI (ck pp s n)))) S) : Sp_X6_children [.inr (21, 0), .inl (nI u), .inl (nI (o s))] S Q :=
  sp_m_children0 hu (by rw [h.cnt hS hs]; exact hQ)
/-- the places of a node's children tell them apart -/
theorem ck_inj {pp : Nat → Nat} {s i j : Nat} (i0 : 0 < i) (hij : i < j) (hi : pp i = s) : ck pp s i < ck pp s j := by
  have h1 := ck_yes i0 hi
  have h2 := ck_mono (pp := pp) (s := s) (a := i + 1) j (by omega)
  omega
theorem sp_m_childAt {Q : ab_Po} {S : ab_S} {u n s i : Nat} {o pp : Nat → Nat} {lb : Nat → Int32} (hS : Sh n o pp) (h : TM S u n o pp lb) (hu : u < 14) (hs : s < n) (i0 : 0 < i) (hi : i < n) (hp : pp i = s) (hQ : Q (.inl (some (nI (o i)))) S) : Sp_X6_childAt [.inr (21, 0), .inl (nI u), .inl (nI (o s)), .inl (nI (ck pp s i))] S Q := by
  refine ⟨Nat.le_of_ble_eq_true rfl, fun G hG => ?_⟩
  have hn := hS.2.1
  have inj := hS.2.2.2.2.1
  have hoi := hS.2.2.2.1 i hi
  refine bl_X6_childAt_0 hG (nI u) _ _ S ?_
  have key : ∀ v, v ≤ 24 → G 6 [some (.inr (21, 0)), some (.inl (nI u)), some (.inl (nI (o s))), some (.inl (nI (ck pp s i))), some (.inl (if o i < v then nI (o i) else -1)), some (.inl (nI v))] [] S 0 := by
    refine ind_up _ ?_ ?_
    · refine bl_X6_childAt_6 hG _ _ _ _ _ S (pk_le 24 24 (fun _ => ?_) (fun h => by omega))
      rw [if_pos hoi]; exact hQ
    · intro v hv ih
      refine bl_X6_childAt_6 hG _ _ _ _ _ S (pk_le 24 v (fun h => by omega) (fun _ => ?_))
      refine sp_m_isChild hu hv ?_
      refine bl_X6_childAt_21 hG _ _ _ _ _ _ S ?_
      rw [h.kid hS hs v hv, mi, nI_clamp (by omega), nI_1]
      have eo : v ≠ o i → (if o i < v then nI (o i) else (-1 : Int32)) = if o i < v + 1 then nI (o i) else -1 := by
        intro z
        by_cases c : o i < v
        · rw [if_pos c, if_pos (by omega)]
        · rw [if_neg c, if_neg (by omega)]
      by_cases q : ∃ j, j < n ∧ o j = v
      · obtain ⟨j, hj, rfl⟩ := q
        rw [gch_at n hj (fun k hk e => inj k j hk hj e)]
        by_cases c : 0 < j ∧ pp j = s
        · rw [if_pos (by simpa using c)]
          refine ⟨fun z => absurd z (by decide), fun _ => ⟨vp_in_nI (by omega) (by decide), ?_⟩⟩
          rw [(h.2.2.1 j c.1 hj).2, c.2]
          have b1 := ck_le (pp := pp) (s := s) j
          have b2 := ck_le (pp := pp) (s := s) i
          refine pk_eq (ck pp s j) (ck pp s i) (fun z => ?_) (fun z => ?_)
          · have e : j = i := by
              rcases Nat.lt_trichotomy j i with y | y | y
              · have := ck_inj c.1 y c.2; omega
              · exact y
              · have := ck_inj i0 y hp; omega
            subst e
            rw [if_pos (by omega)] at ih
            exact ih
          · have e : o j ≠ o i := fun y => z (by rw [inj j i hj hi y])
            rw [eo e]; exact ih
        · rw [if_neg (by simpa using c)]
          refine ⟨fun _ => ?_, fun z => absurd rfl z⟩
          have e : o j ≠ o i := fun y => c (by rw [inj j i hj hi y]; exact ⟨i0, hp⟩)
          rw [eo e]; exact ih
      · rw [gch_no n v (fun j hj e => q ⟨j, hj, e⟩), if_neg (by decide)]
        refine ⟨fun _ => ?_, fun z => absurd rfl z⟩
        rw [eo (fun e => q ⟨i, hi, e.symm⟩)]; exact ih
  have k0 := key 0 (by omega)
  rw [if_neg (by omega)] at k0
  exact k0
theorem sp_m_isAt {Q : ab_Po} {S : ab_S} {u n i s e : Nat} {o pp : Nat → Nat} (hS : Sh n o pp) (hp0 : S 24 0 (24 * u) = -1) (hp : ∀ i, 0 < i → i < n → S 24 0 (24 * u + o i) = nI (o (pp i))) (hu : u < 14) (hi : i < n) (hs : s < n) (he : En n pp s e) (hQ : Q (.inl (some (if s ≤ i ∧ i < e then 1 else 0))) S) : Sp_X6_isAt [.inr (21, 0), .inl (nI u), .inl (nI (o i)), .inl (nI (o s))] S Q := by
  refine ⟨Nat.le_of_ble_eq_true rfl, fun G hG => ?_⟩
  have hn := hS.2.1
  have inj := hS.2.2.2.2.1
  have hL := hS.2.2.2.2.2
  have hos := hS.2.2.2.1 s hs
  have e1 := he.1
  have e2 := he.2.1
  refine bl_X6_isAt_0 hG _ _ _ S ?_
  have key : ∀ d j, j < d → j < n → ((s ≤ j ∧ j < e) ↔ (s ≤ i ∧ i < e)) → G 3 [some (.inr (21, 0)), some (.inl (nI u)), some (.inl (nI (o i))), some (.inl (nI (o s))), some (.inl (nI (o j)))] [] S 0 := by
    intro d
    induction d with
    | zero => intro j h; omega
    | succ d ih =>
      intro j hjd hj hiff
      have hoj := hS.2.2.2.1 j hj
      refine bl_X6_isAt_3 hG _ _ _ _ S ⟨fun h => absurd h (nI_pos (by omega)), fun _ => ?_⟩
      refine pk_eq (o j) (o s) (fun z => ?_) (fun z => ?_)
      · have ej := inj j s hj hs z
        have : s ≤ i ∧ i < e := hiff.mp (by omega)
        rw [if_pos this] at hQ
        exact ⟨fun _ => hQ, fun y => absurd (by rw [z]) y⟩
      · have hne : j ≠ s := fun y => z (by rw [y])
        rw [mi, nI_clamp (by omega)]
        refine ⟨vp_in_nI (by omega) (by decide), ?_⟩
        by_cases j0 : 0 < j
        · rw [hp j j0 hj]
          have hpj := hL.1 j j0 hj
          refine ih (pp j) (by omega) (by omega) (Iff.trans ?_ hiff)
          constructor
          · intro y
            rcases Nat.lt_or_ge j e with w | w
            · constructor
              · omega
              · exact w
            · have := En_out hL he w hj; omega
          · intro y
            have := En_in hL he (i := j) (by omega) y.2
            omega
        · have ej : j = 0 := by omega
          subst ej
          rw [hS.2.2.1, Nat.add_zero, hp0]
          have hno : ¬ (s ≤ i ∧ i < e) := fun y => by have := hiff.mpr y; omega
          rw [if_neg hno] at hQ
          refine bl_X6_isAt_3 hG _ _ _ _ S ⟨fun _ => ⟨fun y => absurd y.symm (nu_ne (by omega) (by decide)), fun _ => hQ⟩, fun h => absurd (by decide) h⟩
  exact key (i + 1) i (by omega) hi Iff.rfl
theorem sp_m_shift {Q : ab_Po} {S : ab_S} {u : Nat} {p x b : Int32} (hu : u < 14)
    (hQ : ∀ S', (∀ a c, (a ≠ 25 ∨ c ≠ 0) → S' a c = S a c) → (∀ j, (j < 24 * u ∨ 24 * u + 24 ≤ j) → S' 25 0 j = S 25 0 j) → (∀ v, v < 24 → S' 25 0 (24 * u + v) = if ich S u v p = true ∧ ¬ S 25 0 (24 * u + v) < x then S 25 0 (24 * u + v) + b else S 25 0 (24 * u + v)) → Q (.inl none) S') : Sp_X6_shift [.inr (21, 0), .inl (nI u), .inl p, .inl x, .inl b] S Q := by
  refine ⟨Nat.le_of_ble_eq_true rfl, fun G hG => ?_⟩
  refine bl_X6_shift_0 hG _ _ _ _ S ?_
  have key : ∀ i, i ≤ 24 → ∀ S1 : ab_S, (∀ a c, (a ≠ 25 ∨ c ≠ 0) → S1 a c = S a c) → (∀ j, (j < 24 * u ∨ 24 * u + i ≤ j) → S1 25 0 j = S 25 0 j) → (∀ v, v < i → S1 25 0 (24 * u + v) = if ich S u v p = true ∧ ¬ S 25 0 (24 * u + v) < x then S 25 0 (24 * u + v) + b else S 25 0 (24 * u + v)) → G 3 [some (.inr (21, 0)), some (.inl (nI u)), some (.inl p), some (.inl x), some (.inl b), some (.inl (nI i))] [] S1 0 := by
    refine ind_up _ ?_ ?_
    · intro S1 h1 h2 h3
      exact bl_X6_shift_3 hG _ _ _ _ _ S1 (pk_le 24 24 (fun _ => hQ S1 h1 h2 h3) (fun h => by omega))
    · intro i hi ih S1 h1 h2 h3
      refine bl_X6_shift_3 hG _ _ _ _ _ S1 (pk_le 24 i (fun h => by omega) (fun _ => ?_))
      refine sp_m_isChild hu hi ?_
      have hich : ich S1 u i p = ich S u i p := by unfold ich; rw [h1 22 0 (Or.inl (by decide)), h1 24 0 (Or.inl (by decide))]
      have hold : S1 25 0 (24 * u + i) = S 25 0 (24 * u + i) := h2 _ (by omega)
      refine bl_X6_shift_18 hG _ _ _ _ _ _ S1 ?_
      rw [hich, mi, nI_clamp (by omega), hold, nI_1]
      have same : ¬ (ich S u i p = true ∧ ¬ S 25 0 (24 * u + i) < x) → G 3 [some (.inr (21, 0)), some (.inl (nI u)), some (.inl p), some (.inl x), some (.inl b), some (.inl (nI (i + 1)))] [] S1 0 := fun hc => ih S1 h1 (fun j hj => h2 j (by omega)) (fun v hv => by
        by_cases e : v = i
        · subst e; rw [if_neg hc]; exact hold
        · exact h3 v (by omega))
      by_cases c : ich S u i p = true
      · rw [if_pos c]
        refine ⟨fun z => absurd z (by decide), fun _ => ⟨vp_in_nI (by omega) (by decide), fun hc => same (fun z => z.2 hc), fun hc => ⟨vp_in_nI (by omega) (by decide), vp_in_nI (by omega) (by decide), fun S2 e2 => ?_⟩⟩⟩
        refine ih S2 (fun a c z => by rw [e2, su_o z]; exact h1 a c z) (fun j hj => by rw [e2, su_j (by omega)]; exact h2 j (by omega)) (fun v hv => ?_)
        by_cases e : v = i
        · subst e; rw [e2, su_at, if_pos ⟨c, hc⟩]
        · rw [e2, su_j (by omega)]; exact h3 v (by omega)
      · rw [if_neg c]
        exact ⟨fun _ => same (fun z => c z.1), fun z => absurd rfl z⟩
  exact key 0 (by omega) S (fun _ _ _ => rfl) (fun _ _ => rfl) (fun v hv => by omega)
theorem nar1 : vp_nar .boolean 1 = 1 := by decide +kernel
theorem nar0 : vp_nar .boolean 0 = 0 := by decide +kernel
/-- behind hang: the node is there, with its parent and its place; the others' places are moved -/
theorem sp_m_hang {Q : ab_Po} {S : ab_S} {u v : Nat} {p x : Int32} (hu : u < 14) (hv : v < 24)
    (hQ : ∀ S', (∀ a c, ((a ≠ 22 ∧ a ≠ 24 ∧ a ≠ 25) ∨ c ≠ 0) → S' a c = S a c) → (∀ j, j ≠ 24 * u + v → S' 22 0 j = S 22 0 j ∧ S' 24 0 j = S 24 0 j) → S' 22 0 (24 * u + v) = 1 → S' 24 0 (24 * u + v) = p → S' 25 0 (24 * u + v) = x → (∀ j, (j < 24 * u ∨ 24 * u + 24 ≤ j) → S' 25 0 j = S 25 0 j) → (∀ w, w < 24 → w ≠ v → S' 25 0 (24 * u + w) = if ich S u w p = true ∧ ¬ S 25 0 (24 * u + w) < x then S 25 0 (24 * u + w) + 1 else S 25 0 (24 * u + w)) → Q (.inl none) S') : Sp_X6_hang [.inr (21, 0), .inl (nI u), .inl (nI v), .inl p, .inl x] S Q := by
  refine ⟨Nat.le_of_ble_eq_true rfl, fun G hG => ?_⟩
  refine bl_X6_hang_0 hG _ _ _ _ S (sp_m_shift hu (fun S1 a1 a2 a3 => ?_))
  refine bl_X6_hang_9 hG _ _ _ _ S1 ?_
  rw [mi, nI_clamp (by omega), nar1]
  refine ⟨vp_in_nI (by omega) (by decide), fun S2 e2 => ⟨vp_in_nI (by omega) (by decide), fun S3 e3 => ⟨vp_in_nI (by omega) (by decide), fun S4 e4 => ?_⟩⟩⟩
  refine hQ S4 (fun a c z => ?_) (fun j hj => ⟨?_, ?_⟩) ?_ ?_ ?_ (fun j hj => ?_) (fun w hw hne => ?_)
  · rw [e4, su_o (by omega), e3, su_o (by omega), e2, su_o (by omega)]; exact a1 a c (by omega)
  · rw [e4, su_o (Or.inl (by decide)), e3, su_o (Or.inl (by decide)), e2, su_j hj, a1 22 0 (Or.inl (by decide))]
  · rw [e4, su_o (Or.inl (by decide)), e3, su_j hj, e2, su_o (Or.inl (by decide)), a1 24 0 (Or.inl (by decide))]
  · rw [e4, su_o (Or.inl (by decide)), e3, su_o (Or.inl (by decide)), e2, su_at]
  · rw [e4, su_o (Or.inl (by decide)), e3, su_at]
  · rw [e4, su_at]
  · rw [e4, su_j (by omega), e3, su_o (Or.inl (by decide)), e2, su_o (Or.inl (by decide))]; exact a2 j hj
  · rw [e4, su_j (by omega), e3, su_o (Or.inl (by decide)), e2, su_o (Or.inl (by decide))]; exact a3 w hw
theorem sp_m_unhang {Q : ab_Po} {S : ab_S} {u v : Nat} (hu : u < 14) (hv : v < 24)
    (hQ : ∀ S' S1 : ab_S, S1 = ab_su S 22 0 (24 * u + v) 0 → (∀ a c, ((a ≠ 22 ∧ a ≠ 25) ∨ c ≠ 0) → S' a c = S a c) → (∀ j, j ≠ 24 * u + v → S' 22 0 j = S 22 0 j) → S' 22 0 (24 * u + v) = 0 → (∀ j, (j < 24 * u ∨ 24 * u + 24 ≤ j) → S' 25 0 j = S 25 0 j) → (∀ w, w < 24 → S' 25 0 (24 * u + w) = if ich S1 u w (S 24 0 (24 * u + v)) = true ∧ ¬ S 25 0 (24 * u + w) < S 25 0 (24 * u + v) then S 25 0 (24 * u + w) + -1 else S 25 0 (24 * u + w)) → Q (.inl none) S') : Sp_X6_unhang [.inr (21, 0), .inl (nI u), .inl (nI v)] S Q := by
  refine ⟨Nat.le_of_ble_eq_true rfl, fun G hG => ?_⟩
  refine bl_X6_unhang_0 hG _ _ S ?_
  rw [mi, nI_clamp (by omega), nar0]
  refine ⟨vp_in_nI (by omega) (by decide), fun S1 e1 => ⟨vp_in_nI (by omega) (by decide), vp_in_nI (by omega) (by decide), ?_⟩⟩
  have o1 : ∀ a c, (a ≠ 22 ∨ c ≠ 0) → S1 a c = S a c := fun a c z => by rw [e1]; exact su_o z
  refine sp_m_shift hu (fun S2 a1 a2 a3 => ?_)
  refine bl_X6_unhang_40 hG _ _ S2 ?_
  rw [o1 24 0 (Or.inl (by decide)), o1 25 0 (Or.inl (by decide))] at a3
  rw [o1 25 0 (Or.inl (by decide))] at a2
  refine hQ S2 S1 e1 (fun a c z => ?_) (fun j hj => ?_) ?_ a2 a3
  · rw [a1 a c (by omega)]; exact o1 a c (by omega)
  · rw [a1 22 0 (Or.inl (by decide)), e1, su_j hj]
  · rw [a1 22 0 (Or.inl (by decide)), e1, su_at]
