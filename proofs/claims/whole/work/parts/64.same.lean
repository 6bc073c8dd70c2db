/-! Whether the working tree is the head's. -/
theorem same_row {n n' : Nat} {o pp o' pp' : Nat → Nat} (hS : Sh n o pp) (hS' : Sh n' o' pp') (hin : ∀ i, i < n → ∃ j, j < n' ∧ o' j = o i) (hin' : ∀ j, j < n' → ∃ i, i < n ∧ o i = o' j)
    (hpar : ∀ i j, i < n → j < n' → o i = o' j → 0 < i → 0 < j → o (pp i) = o' (pp' j) ∧ ck pp (pp i) i = ck pp' (pp' j) j) : n = n' ∧ ∀ i, i < n → o i = o' i := by
  have hL := hS.2.2.2.2.2
  have hL' := hS'.2.2.2.2.2
  have inj := hS.2.2.2.2.1
  have inj' := hS'.2.2.2.2.1
  have key : ∀ i, i < n → i < n' → ∀ j, j ≤ i → o j = o' j := by
    intro i
    induction i with
    | zero =>
      intro _ _ j hj
      have : j = 0 := by omega
      subst this
      rw [hS.2.2.1, hS'.2.2.1]
    | succ i ih =>
      intro h1 h2
      have ih' := ih (by omega) (by omega)
      have fin : o (i + 1) = o' (i + 1) := by
        apply Classical.byContradiction
        intro hne
        obtain ⟨s', hs', es'⟩ := hin (i + 1) h1
        obtain ⟨s, hs, es⟩ := hin' (i + 1) h2
        have s'gt : i + 1 < s' := by
          rcases Nat.lt_trichotomy s' (i + 1) with q | q | q
          · have := ih' s' (by omega)
            have := inj (i + 1) s' h1 (by omega) (es'.symm.trans this.symm)
            omega
          · subst q; exact absurd es'.symm hne
          · exact q
        have sgt : i + 1 < s := by
          rcases Nat.lt_trichotomy s (i + 1) with q | q | q
          · have := ih' s (by omega)
            have := inj' (i + 1) s h2 (by omega) (es.symm.trans this)
            omega
          · subst q; exact absurd es hne
          · exact q
        have a1 := hL.1 (i + 1) (by omega) h1
        have a2 := hL'.1 (i + 1) (by omega) h2
        -- the one in the other row
        obtain ⟨p1, k1⟩ := hpar s (i + 1) hs h2 es (by omega) (by omega)
        obtain ⟨p2, k2⟩ := hpar (i + 1) s' h1 hs' es'.symm (by omega) (by omega)
        have q1 : pp s = pp' (i + 1) := inj _ _ (by have := hL.1 s (by omega) hs; omega) (by omega) (p1.trans (ih' (pp' (i + 1)) (by omega)).symm)
        have q2 : pp' s' = pp (i + 1) := inj' _ _ (by have := hL'.1 s' (by omega) hs'; omega) (by omega) (p2.symm.trans (ih' (pp (i + 1)) (by omega)))
        have l1 := hL.2 (i + 1) s (by omega) sgt hs (by omega)
        have l2 := hL'.2 (i + 1) s' (by omega) s'gt hs' (by omega)
        have e : pp (i + 1) = pp' (i + 1) := by omega
        have c1 := ck_inj (pp := pp) (s := pp (i + 1)) (i := i + 1) (j := s) (by omega) sgt rfl
        have c2 := ck_inj (pp := pp') (s := pp' (i + 1)) (i := i + 1) (j := s') (by omega) s'gt rfl
        rw [q1] at k1
        rw [q2] at k2
        rw [e] at c1 k2
        omega
      intro j hj
      by_cases q : j = i + 1
      · subst q; exact fin
      · exact ih' j (by omega)
  have hn : n = n' := by
    rcases Nat.lt_trichotomy n n' with q | q | q
    · obtain ⟨i, hi, e⟩ := hin' n q
      have := key i hi (by omega) i (Nat.le_refl _)
      have := inj' n i q (by omega) (e.symm.trans this)
      omega
    · exact q
    · obtain ⟨j, hj, e⟩ := hin n' q
      have := key j (by omega) hj j (Nat.le_refl _)
      have := inj n' j q (by omega) (e.symm.trans this.symm)
      omega
  exact ⟨hn, fun i hi => key i hi (by omega) i (Nat.le_refl _)⟩
def SameD (d e : sD) : Prop := d.1 = e.1 ∧ ∀ i, i < d.1 → e.2.1 i = d.2.1 i ∧ d.2.2.2 (d.2.1 i) = e.2.2.2 (d.2.1 i) ∧ (0 < i → e.2.1 (e.2.2.1 i) = d.2.1 (d.2.2.1 i))
theorem sp_c_isSameAs {Q : ab_Po} {S : ab_S} {t t1 made : Nat} {d e : sD} (hk : Okd made d) (hk' : Okd made e) (h : CTd S t d) (h' : CTd S t1 e) (h1 : SameD d e → Q (.inl (some 1)) S) (h0 : ¬ SameD d e → Q (.inl (some 0)) S) : Sp_X4_isSameAs [.inr (4, t), .inr (4, t1)] S Q := by
  refine ⟨Nat.le_of_ble_eq_true rfl, fun G hG => ?_⟩
  have hn := hk.1.2.1
  have hn' := hk'.1.2.1
  refine bl_X4_isSameAs_0 hG t t1 S ?_
  rw [h.1.1, h'.1.1]
  refine pk_eq d.1 e.1 (fun en => ?_) (fun en => h0 (fun z => en z.1))
  have key : ∀ k, k ≤ d.1 → (∀ i, i < k → e.2.1 i = d.2.1 i ∧ d.2.2.2 (d.2.1 i) = e.2.2.2 (d.2.1 i) ∧ (0 < i → e.2.1 (e.2.2.1 i) = d.2.1 (d.2.2.1 i))) → G 15 [some (.inr (4, t)), some (.inr (4, t1)), some (.inl (nI k)), none] [] S 0 := by
    refine ind_up _ ?_ ?_
    · intro hi
      refine bl_X4_isSameAs_15 hG t t1 _ S ?_
      rw [h.1.1]
      exact pk_le d.1 d.1 (fun _ => h1 ⟨en, hi⟩) (fun z => by omega)
    · intro k hk1 ih hi
      have oa := hk.1.2.2.2.1 k hk1
      have ob := hk'.1.2.2.2.1 k (by omega)
      refine bl_X4_isSameAs_15 hG t t1 _ S ?_
      rw [h.1.1, nI_clamp (by omega), (h.1.2.1 k hk1).1, (h'.1.2.1 k (by omega)).1]
      refine pk_le d.1 k (fun z => by omega) (fun _ => ⟨vp_in_nI (by omega) (by decide), vp_in_nI (by omega) (by decide), pk_eq (e.2.1 k) (d.2.1 k) (fun eo => ?_) (fun eo => h0 (fun z => eo (z.2 k hk1).1))⟩)
      refine sp_hasAsIn oa ?_
      refine bl_X4_isSameAs_46 hG t t1 _ _ _ S ?_
      have l1 := (h.1.2.1 k hk1).2.2
      have l2 := (h'.1.2.1 k (by omega)).2.2
      rw [eo] at l2
      rw [l1, l2, nI_1]
      by_cases c : d.2.2.2 (d.2.1 k) = e.2.2.2 (d.2.1 k) ∧ S 7 t (d.2.1 k) = S 7 t1 (d.2.1 k)
      · rw [if_pos c]
        refine ⟨fun z => absurd z (by decide), fun _ => ih (fun i hik => ?_)⟩
        by_cases q : i = k
        · subst q
          refine ⟨eo, c.1, fun i0 => ?_⟩
          have c2 := c.2
          rw [h.1.2.2.2 i i0 hk1, ← eo, h'.1.2.2.2 i i0 (by omega)] at c2
          have w1 := hk.1.2.2.2.1 (d.2.2.1 i) (by have := hk.1.2.2.2.2.2.1 i i0 hk1; omega)
          have w2 := hk'.1.2.2.2.1 (e.2.2.1 i) (by have := hk'.1.2.2.2.2.2.1 i i0 (by omega); omega)
          exact ((nI_eq (by omega) (by omega)).mp c2).symm
        · exact hi i (by omega)
      · rw [if_neg c]
        refine ⟨fun _ => h0 (fun z => c ⟨(z.2 k hk1).2.1, ?_⟩), fun z => absurd rfl z⟩
        rcases Nat.eq_zero_or_pos k with q | q
        · subst q; rw [hk.1.2.2.1, h.1.2.2.1, h'.1.2.2.1]
        · rw [h.1.2.2.2 k q hk1, ← (z.2 k hk1).1, h'.1.2.2.2 k q (by omega), (z.2 k hk1).2.2 q]
  exact key 0 (by omega) (fun i hi => by omega)
def SmV (S : ab_S) (h v : Nat) : Prop := S 22 0 (24 * 12 + v) = S 22 0 (24 * h + v) ∧ (S 22 0 (24 * 12 + v) = 0 ∨ (S 23 0 (24 * 12 + v) = S 23 0 (24 * h + v) ∧ S 24 0 (24 * 12 + v) = S 24 0 (24 * h + v) ∧ S 25 0 (24 * 12 + v) = S 25 0 (24 * h + v)))
theorem SmV_same {S : ab_S} {made h : Nat} {d e : sD} (hk : Okd made d) (hk' : Okd made e) (hd : MTd S 12 d) (he : MTd S h e) (hv : ∀ v, v < 24 → SmV S h v) : SameD d e := by
  have o24 := hk.1.2.2.2.1
  have o24' := hk'.1.2.2.2.1
  have m1 : ∀ i, i < d.1 → ∃ j, j < e.1 ∧ e.2.1 j = d.2.1 i := fun i hi => by
    apply Classical.byContradiction
    intro hno
    have a := (hv (d.2.1 i) (o24 i hi)).1
    rw [(hd.1 i hi).1, he.2.2.2 (d.2.1 i) (o24 i hi) (fun j hj w => hno ⟨j, hj, w⟩)] at a
    exact absurd a (by decide)
  have m2 : ∀ j, j < e.1 → ∃ i, i < d.1 ∧ d.2.1 i = e.2.1 j := fun j hj => by
    apply Classical.byContradiction
    intro hno
    have a := (hv (e.2.1 j) (o24' j hj)).1
    rw [(he.1 j hj).1, hd.2.2.2 (e.2.1 j) (o24' j hj) (fun i hi w => hno ⟨i, hi, w⟩)] at a
    exact absurd a (by decide)
  have m3 : ∀ i, i < d.1 → S 23 0 (24 * 12 + d.2.1 i) = S 23 0 (24 * h + d.2.1 i) ∧ S 24 0 (24 * 12 + d.2.1 i) = S 24 0 (24 * h + d.2.1 i) ∧ S 25 0 (24 * 12 + d.2.1 i) = S 25 0 (24 * h + d.2.1 i) := fun i hi => by
    rcases (hv (d.2.1 i) (o24 i hi)).2 with q | q
    · rw [(hd.1 i hi).1] at q; exact absurd q (by decide)
    · exact q
  have hr := same_row hk.1 hk'.1 m1 m2 (fun i j hi hj eo i0 j0 => by
    obtain ⟨_, a2, a3⟩ := m3 i hi
    have w1 := o24 (d.2.2.1 i) (by have := hk.1.2.2.2.2.2.1 i i0 hi; omega)
    have w2 := o24' (e.2.2.1 j) (by have := hk'.1.2.2.2.2.2.1 j j0 hj; omega)
    rw [(hd.2.2.1 i i0 hi).1, eo, (he.2.2.1 j j0 hj).1] at a2
    rw [(hd.2.2.1 i i0 hi).2, eo, (he.2.2.1 j j0 hj).2] at a3
    have c1 := ck_le (pp := d.2.2.1) (s := d.2.2.1 i) i
    have c2 := ck_le (pp := e.2.2.1) (s := e.2.2.1 j) j
    have n1 := hk.1.2.1
    have n2 := hk'.1.2.1
    exact ⟨(nI_eq (by omega) (by omega)).mp a2, (nI_eq (by omega) (by omega)).mp a3⟩)
  refine ⟨hr.1, fun i hi => ⟨(hr.2 i hi).symm, ?_, fun i0 => ?_⟩⟩
  · have a := (m3 i hi).1
    rw [(hd.1 i hi).2] at a
    rw [hr.2 i hi] at a ⊢
    rw [(he.1 i (by have := hr.1; omega)).2] at a
    exact a
  · have a := (m3 i hi).2.1
    have hi' : i < e.1 := by have := hr.1; omega
    have w1 := o24 (d.2.2.1 i) (by have := hk.1.2.2.2.2.2.1 i i0 hi; omega)
    have w2 := o24' (e.2.2.1 i) (by have := hk'.1.2.2.2.2.2.1 i i0 hi'; omega)
    rw [(hd.2.2.1 i i0 hi).1, hr.2 i hi, (he.2.2.1 i i0 hi').1] at a
    exact ((nI_eq (by omega) (by omega)).mp a).symm
theorem same_SmV {S : ab_S} {made h : Nat} {d e : sD} (hk : Okd made d) (hk' : Okd made e) (hd : MTd S 12 d) (he : MTd S h e) (hs : SameD d e) : ∀ v, v < 24 → SmV S h v := fun v hv => by
  by_cases c : ∃ i, i < d.1 ∧ d.2.1 i = v
  · obtain ⟨i, hi, rfl⟩ := c
    have en := hs.1
    have hi' : i < e.1 := by omega
    obtain ⟨b1, b2, b3⟩ := hs.2 i hi
    have x1 := he.1 i hi'
    rw [b1] at x1
    refine ⟨by rw [(hd.1 i hi).1, x1.1], Or.inr ⟨by rw [(hd.1 i hi).2, x1.2, b2], ?_⟩⟩
    rcases Nat.eq_zero_or_pos i with q | q
    · subst q
      have z1 := hd.2.1
      have z2 := he.2.1
      rw [hk.1.2.2.1, Nat.add_zero, Nat.add_zero, z1.1, z1.2, z2.1, z2.2]
      exact ⟨rfl, rfl⟩
    · have y := he.2.2.1 i q hi'
      rw [b1] at y
      have ep : e.2.2.1 i = d.2.2.1 i := by
        have h1 := hk.1.2.2.2.2.2.1 i q hi
        have h2 := hk'.1.2.2.2.2.2.1 i q hi'
        have h3 := (hs.2 (d.2.2.1 i) (by omega)).1
        exact hk'.1.2.2.2.2.1 _ _ (by omega) (by omega) ((b3 q).trans h3.symm)
      have ec : ck e.2.2.1 (e.2.2.1 i) i = ck d.2.2.1 (d.2.2.1 i) i := by
        rw [ep]
        refine ck_congr i (fun j j0 hj => ?_)
        have h1 := hk.1.2.2.2.2.2.1 j j0 (by omega)
        have h2 := hk'.1.2.2.2.2.2.1 j j0 (by omega)
        have h3 := (hs.2 (d.2.2.1 j) (by omega)).1
        exact hk'.1.2.2.2.2.1 _ _ (by omega) (by omega) (((hs.2 j (by omega)).2.2 j0).trans h3.symm)
      rw [(hd.2.2.1 i q hi).1, (hd.2.2.1 i q hi).2, y.1, y.2, b3 q, ec]
      exact ⟨rfl, rfl⟩
  · have z1 := hd.2.2.2 v hv (fun i hi w => c ⟨i, hi, w⟩)
    have z2 := he.2.2.2 v hv (fun i hi w => c ⟨i, by have := hs.1; omega, by rw [← (hs.2 i (by have := hs.1; omega)).1]; exact w⟩)
    exact ⟨by rw [z1, z2], Or.inl z1⟩
theorem sp_m_isHeads {Q : ab_Po} {S : ab_S} {made h : Nat} {d e : sD} (hk : Okd made d) (hk' : Okd made e) (hd : MTd S 12 d) (he : MTd S h e) (hh : S 21 0 10 = nI h) (h12 : h < 12) (h1 : SameD d e → Q (.inl (some 1)) S) (h0 : ¬ SameD d e → Q (.inl (some 0)) S) : Sp_X6_isHeads [.inr (21, 0)] S Q := by
  refine ⟨Nat.le_of_ble_eq_true rfl, fun G hG => ?_⟩
  refine bl_X6_isHeads_0 hG S ?_
  have key : ∀ k, k ≤ 24 → ∀ fl : Int32, ((fl = 1 ∧ ∀ v, v < k → SmV S h v) ∨ (fl = 0 ∧ ¬ SameD d e)) → G 4 [some (.inr (21, 0)), some (.inl fl), some (.inl (nI k)), none, none] [] S 0 := by
    refine ind_up _ ?_ ?_
    · intro fl hf
      refine bl_X6_isHeads_4 hG _ _ S ⟨fun _ => ?_, fun z => absurd (by decide) z⟩
      rcases hf with ⟨rfl, hf⟩ | ⟨rfl, hf⟩
      · exact ⟨Or.inr rfl, h1 (SmV_same hk hk' hd he hf)⟩
      · exact ⟨Or.inl rfl, h0 hf⟩
    · intro k hk1 ih fl hf
      refine bl_X6_isHeads_4 hG _ _ S ⟨fun z => absurd z (nI_ge (b := 24) hk1 (by decide)), fun _ => ?_⟩
      rw [hh, m288, mi, nI_clamp (by omega), nI_clamp (by omega), nI_1]
      rcases hf with ⟨rfl, hf⟩ | ⟨rfl, hf⟩
      · have i1 : vp_in (nI (24 * 12 + k)) 336 := vp_in_nI (by omega) (by decide)
        have i2 : vp_in (nI (24 * h + k)) 336 := vp_in_nI (by omega) (by decide)
        have go : SmV S h k → G 4 [some (.inr (21, 0)), some (.inl 1), some (.inl (nI (k + 1))), none, none] [] S 0 := fun z => ih 1 (Or.inl ⟨rfl, fun v hv => by
          by_cases q : v = k
          · subst q; exact z
          · exact hf v (by omega)⟩)
        have no : ¬ SmV S h k → G 4 [some (.inr (21, 0)), some (.inl 0), some (.inl (nI (k + 1))), none, none] [] S 0 := fun z => ih 0 (Or.inr ⟨rfl, fun w => z (same_SmV hk hk' hd he w k hk1)⟩)
        refine ⟨fun z => absurd z (by decide), fun _ => ⟨i1, i2, fun e1 => ⟨i1, fun e2 => go ⟨e1, Or.inl e2⟩, fun e2 => ⟨i1, i2, fun e3 => ⟨i1, i2, fun e4 => ⟨i1, i2, fun e5 => go ⟨e1, Or.inr ⟨e3, e4, e5⟩⟩, fun e5 => no (fun z => z.2.elim e2 (fun y => e5 y.2.2))⟩, fun e4 => no (fun z => z.2.elim e2 (fun y => e4 y.2.1))⟩, fun e3 => no (fun z => z.2.elim e2 (fun y => e3 y.1))⟩⟩, fun e1 => no (fun z => e1 z.1)⟩⟩
      · exact ⟨fun _ => ih 0 (Or.inr ⟨rfl, hf⟩), fun z => absurd rfl z⟩
  exact key 0 (by omega) 1 (Or.inl ⟨rfl, fun v hv => by omega⟩)
