/-! The class's distance as a whole. -/
theorem wd_first {n : Nat} {pp eA : Nat → Nat} (hL : Lp n pp) (hE : Ends n pp eA) {s : Nat} (hs : s < n) (h : Wd pp eA s) : ∀ k, k < s → eA k ≠ eA s := fun k hk e => by
  rcases h with h | h
  · omega
  · have hp := hL.1 s (by omega) hs
    have s1 := (hE s hs).1
    have k1 := (En_in hL (hE k (by omega)) hk (by omega)).1
    have p1 := (hE (pp s) (by omega)).1
    have p2 : s < eA (pp s) := by
      rcases Nat.lt_or_ge s (eA (pp s)) with w | w
      · exact w
      · have := En_out hL (hE (pp s) (by omega)) w hs
        omega
    have q1 := En_le hL (hE (pp s) (by omega)) (hE s hs) (by omega) p2
    have q2 := En_le hL (hE k (by omega)) (hE (pp s) (by omega)) k1 (by omega)
    exact h (by omega)
theorem wd_later {n : Nat} {pp eA : Nat → Nat} (hL : Lp n pp) (hE : Ends n pp eA) {s i : Nat} (hs : s < n) (h1 : s ≤ i) (h2 : i < eA s) (hi : i < n) (hne : eA i ≠ eA s) : ∀ k, k ≤ s → eA k ≠ eA i := fun k hk e => by
  have i1 := (hE i hi).1
  have q1 := En_le hL (hE s hs) (hE i hi) h1 h2
  have q2 := En_le hL (hE k (by omega)) (hE s hs) hk (by omega)
  omega
theorem sp_compareAll {Q : ab_Po} {S : ab_S} {t t' n n' s : Nat} {o pp eA o' pp' eB : Nat → Nat} {lb lb' : Nat → Int32} (hS : Sh n o pp) (hS' : Sh n' o' pp') (hT : Tr S t n o pp lb) (hT' : Tr S t' n' o' pp' lb') (hA : Ends n pp eA) (hB : Ends n' pp' eB) (xA : ∀ i, i < n → S 19 0 i = nI (eA i)) (xB : ∀ i, i < n' → S 19 1 i = nI (eB i)) (hs : s < n) (hw : Wd pp eA s)
    (hV : ∀ i j, i < n → j < n' → (∀ k, k < s + 1 → eA k ≠ eA i) → PV n pp eA (fun a => lb (o a)) n' pp' eB (fun a => lb' (o' a)) S i j)
    (hQ : ∀ S', OffD S S' → (∀ i j, i < n → j < n' → (∀ k, k < s → eA k ≠ eA i) → PV n pp eA (fun a => lb (o a)) n' pp' eB (fun a => lb' (o' a)) S' i j) → Q (.inl none) S') : Sp_X0_compareWithAll [.inr (3, 0), .inr (4, t), .inr (4, t'), .inl (nI s)] S Q := by
  refine ⟨Nat.le_of_ble_eq_true rfl, fun G hG => ?_⟩
  have hn := hS.2.1
  have hn' := hS'.2.1
  have hL := hS.2.2.2.2.2
  have hL' := hS'.2.2.2.2.2
  refine bl_X0_compareWithAll_0 hG t t' _ S ?_
  rw [hT'.1]
  have key : ∀ m, m ≤ n' → ∀ T : ab_S, OffD S T → (∀ i j, i < n → j < n' → ((∀ k, k < s + 1 → eA k ≠ eA i) ∨ ((∀ k, k < s → eA k ≠ eA i) ∧ ∀ k, k < m → eB k ≠ eB j)) → PV n pp eA (fun a => lb (o a)) n' pp' eB (fun a => lb' (o' a)) T i j) → G 8 [some (.inr (3, 0)), some (.inr (4, t)), some (.inr (4, t')), some (.inl (nI s)), some (.inl (nI m - 1))] [] T 0 := by
    intro m
    induction m with
    | zero =>
      intro _ T fT hI
      exact bl_X0_compareWithAll_8 hG t t' _ _ T ⟨fun _ => hQ T fT (fun i j hi hj h => hI i j hi hj (Or.inr ⟨h, fun k hk => absurd hk (Nat.not_lt_zero k)⟩)), fun z => absurd (by decide) z⟩
    | succ m ih =>
      intro hm T fT hI
      rw [nI_pred]
      have tr : ∀ t n o pp lb, Tr S t n o pp lb → Tr T t n o pp lb := fun t n o pp lb h => by
        unfold Tr
        rw [fT 4 t (by decide) (by decide), fT 5 t (by decide) (by decide), fT 6 t (by decide) (by decide), fT 7 t (by decide) (by decide), fT 8 t (by decide) (by decide)]
        exact h
      have yA : ∀ i, i < n → T 19 0 i = nI (eA i) := fun i hi => by rw [fT 19 0 (by decide) (by decide)]; exact xA i hi
      have yB : ∀ i, i < n' → T 19 1 i = nI (eB i) := fun i hi => by rw [fT 19 1 (by decide) (by decide)]; exact xB i hi
      refine bl_X0_compareWithAll_8 hG t t' _ _ T ⟨fun z => absurd z (nI_pos (by omega)), fun _ => sp_isWidest hS' (tr _ _ _ _ _ hT') hB yB (by omega) (fun hwm => ?_) (fun hwm => ?_)⟩
      · refine bl_X0_compareWithAll_23 hG t t' _ _ _ T ⟨fun z => absurd z (by decide), fun _ => ?_⟩
        refine sp_compareParts hS hS' (tr _ _ _ _ _ hT) (tr _ _ _ _ _ hT') hA hB yA yB hs (by omega) (fun i j i1 i2 j1 j2 hns => ?_) (fun T2 f2 g1 g2 => ?_)
        · have hi : i < n := by have := (hA s hs).2.1; omega
          have hj : j < n' := by have := (hB m (by omega)).2.1; omega
          refine hI i j hi hj ?_
          by_cases w : eA i = eA s
          · right
            refine ⟨fun k hk => by rw [w]; exact wd_first hL hA hs hw k hk, fun k hk => ?_⟩
            exact wd_later hL' hB (show m < n' by omega) j1 j2 hj (fun e => hns ⟨w, e⟩) k (by omega)
          · left
            exact fun k hk => wd_later hL hA hs i1 i2 hi w k (by omega)
        · refine bl_X0_compareWithAll_35 hG t t' _ _ T2 ?_
          rw [i_sub1]
          refine ih (by omega) T2 (fun a b z1 z2 => by rw [f2 a b z1 z2]; exact fT a b z1 z2) (fun i j hi hj hor => ?_)
          by_cases w : s ≤ i ∧ i < eA s ∧ m ≤ j ∧ j < eB m ∧ eA i = eA s ∧ eB j = eB m
          · exact g1 i j w.1 w.2.1 w.2.2.1 w.2.2.2.1 w.2.2.2.2.1 w.2.2.2.2.2
          · have old : PV n pp eA (fun a => lb (o a)) n' pp' eB (fun a => lb' (o' a)) T i j := by
              refine hI i j hi hj ?_
              rcases hor with y | ⟨y1, y2⟩
              · exact Or.inl y
              · by_cases q1 : eA s = eA i
                · right
                  refine ⟨y1, fun k hk => ?_⟩
                  by_cases q2 : k = m
                  · subst q2
                    intro e
                    refine w ⟨?_, ?_, ?_, ?_, q1.symm, e.symm⟩
                    · rcases Nat.lt_or_ge i s with v | v
                      · exact absurd rfl (y1 i v)
                      · exact v
                    · rw [q1]; exact (hA i hi).1
                    · rcases Nat.lt_or_ge j k with v | v
                      · exact absurd rfl (y2 j v)
                      · exact v
                    · rw [e]; exact (hB j hj).1
                  · exact y2 k (by omega)
                · left
                  intro k hk
                  by_cases q2 : k = s
                  · subst q2; exact q1
                  · exact y1 k (by omega)
            obtain ⟨d, v1, v2⟩ := old
            exact ⟨d, by rw [g2 i j w]; exact v1, v2⟩
      · refine bl_X0_compareWithAll_23 hG t t' _ _ _ T ⟨fun _ => ?_, fun z => absurd rfl z⟩
        rw [i_sub1]
        refine ih (by omega) T fT (fun i j hi hj hor => hI i j hi hj ?_)
        rcases hor with y | ⟨y1, y2⟩
        · exact Or.inl y
        · refine Or.inr ⟨y1, fun k hk => ?_⟩
          by_cases q : k = m
          · subst q
            intro e
            have hk0 : k ≠ 0 := fun z => hwm (Or.inl z)
            have ep : eB (pp' k) = eB k := Classical.byContradiction (fun z => hwm (Or.inr z))
            exact y2 (pp' k) (hL'.1 k (by omega) (by omega)) (ep.trans e)
          · exact y2 k (by omega)
  exact key n' (Nat.le_refl _) S (fun _ _ _ _ => rfl) (fun i j hi hj hor => hV i j hi hj (hor.elim id (fun z => absurd rfl (z.2 j hj))))
theorem sp_between {Q : ab_Po} {S : ab_S} {t t' n n' : Nat} {o pp o' pp' : Nat → Nat} {lb lb' : Nat → Int32} (hS : Sh n o pp) (hS' : Sh n' o' pp') (hT : Tr S t n o pp lb) (hT' : Tr S t' n' o' pp' lb')
    (hQ : ∀ S' d, (∀ a b, a ≠ 16 → a ≠ 18 → a ≠ 19 → S' a b = S a b) → d ≤ 48 → D0 n pp (fun a => lb (o a)) n' pp' (fun a => lb' (o' a)) 0 n 0 n' d → Q (.inl (some (nI d))) S') : Sp_X0_between [.inr (3, 0), .inr (4, t), .inr (4, t')] S Q := by
  refine ⟨Nat.le_of_ble_eq_true rfl, fun G hG => ?_⟩
  have hn := hS.2.1
  have hn' := hS'.2.1
  have hL := hS.2.2.2.2.2
  have hL' := hS'.2.2.2.2.2
  obtain ⟨eA, hA⟩ : ∃ eA, Ends n pp eA := by
    refine ⟨fun i => if h : i < n then Classical.choose (En_ex (pp := pp) h) else 0, fun i hi => ?_⟩
    show En n pp i (if h : i < n then Classical.choose (En_ex (pp := pp) h) else 0)
    rw [dif_pos hi]
    exact Classical.choose_spec (En_ex (pp := pp) hi)
  obtain ⟨eB, hB⟩ : ∃ eB, Ends n' pp' eB := by
    refine ⟨fun i => if h : i < n' then Classical.choose (En_ex (pp := pp') h) else 0, fun i hi => ?_⟩
    show En n' pp' i (if h : i < n' then Classical.choose (En_ex (pp := pp') h) else 0)
    rw [dif_pos hi]
    exact Classical.choose_spec (En_ex (pp := pp') hi)
  refine bl_X0_between_0 hG t t' S (sp_noteEnds hS hT hA (fun S1 f1 x1 => ?_))
  have tr1 : Tr S1 t' n' o' pp' lb' := by
    unfold Tr
    rw [f1 4 t' (by omega), f1 5 t' (by omega), f1 6 t' (by omega), f1 7 t' (by omega), f1 8 t' (by omega)]
    exact hT'
  refine bl_X0_between_8 hG t t' S1 (sp_noteEnds hS' tr1 hB (fun S2 f2 x2 => ?_))
  refine bl_X0_between_16 hG t t' S2 ?_
  have tr : ∀ (T : ab_S), (∀ a b, a ≠ 16 → a ≠ 18 → T a b = S2 a b) → ∀ t n o pp lb, Tr S t n o pp lb → Tr T t n o pp lb := fun T fT t n o pp lb h => by
    unfold Tr
    rw [fT 4 t (by decide) (by decide), fT 5 t (by decide) (by decide), fT 6 t (by decide) (by decide), fT 7 t (by decide) (by decide), fT 8 t (by decide) (by decide), f2 4 t (by omega), f2 5 t (by omega), f2 6 t (by omega), f2 7 t (by omega), f2 8 t (by omega), f1 4 t (by omega), f1 5 t (by omega), f1 6 t (by omega), f1 7 t (by omega), f1 8 t (by omega)]
    exact h
  have xA : ∀ i, i < n → S2 19 0 i = nI (eA i) := fun i hi => by rw [f2 19 0 (by omega)]; exact x1 i hi
  rw [(tr S2 (fun _ _ _ _ => rfl) _ _ _ _ _ hT).1]
  have key : ∀ m, m ≤ n → ∀ T : ab_S, (∀ a b, a ≠ 16 → a ≠ 18 → T a b = S2 a b) → (∀ i j, i < n → j < n' → (∀ k, k < m → eA k ≠ eA i) → PV n pp eA (fun a => lb (o a)) n' pp' eB (fun a => lb' (o' a)) T i j) → G 23 [some (.inr (3, 0)), some (.inr (4, t)), some (.inr (4, t')), some (.inl (nI m - 1))] [] T 0 := by
    intro m
    induction m with
    | zero =>
      intro _ T fT hI
      obtain ⟨d, v1, v2⟩ := hI 0 0 hS.1 hS'.1 (fun k hk => absurd hk (Nat.not_lt_zero k))
      rw [En_0 (hA 0 hS.1), En_0 (hB 0 hS'.1)] at v2
      refine bl_X0_between_23 hG t t' _ T ⟨fun _ => ⟨pk_in 0 24 (by omega), pk_in 0 24 (by omega), ?_⟩, fun z => absurd (by decide) z⟩
      rw [show (0 : Int32).toNatClampNeg = 0 by decide, v1]
      exact hQ T d (fun a b z1 z2 z3 => by rw [fT a b z1 z2, f2 a b (Or.inl z3), f1 a b (Or.inl z3)]) (by have := Ds.le v2; omega) v2
    | succ m ih =>
      intro hm T fT hI
      rw [nI_pred]
      have yA : ∀ i, i < n → T 19 0 i = nI (eA i) := fun i hi => by rw [fT 19 0 (by decide) (by decide)]; exact xA i hi
      have yB : ∀ i, i < n' → T 19 1 i = nI (eB i) := fun i hi => by rw [fT 19 1 (by decide) (by decide)]; exact x2 i hi
      refine bl_X0_between_23 hG t t' _ T ⟨fun z => absurd z (nI_pos (by omega)), fun _ => sp_isWidest hS (tr T fT _ _ _ _ _ hT) hA yA (by omega) (fun hwm => ?_) (fun hwm => ?_)⟩
      · refine bl_X0_between_36 hG t t' _ _ T ⟨fun z => absurd z (by decide), fun _ => ?_⟩
        refine sp_compareAll hS hS' (tr T fT _ _ _ _ _ hT) (tr T fT _ _ _ _ _ hT') hA hB yA yB (by omega) hwm hI (fun T2 g2 hI2 => ?_)
        refine bl_X0_between_46 hG t t' _ T2 ?_
        rw [i_sub1]
        exact ih (by omega) T2 (fun a b z1 z2 => by rw [g2 a b z1 z2]; exact fT a b z1 z2) hI2
      · refine bl_X0_between_36 hG t t' _ _ T ⟨fun _ => ?_, fun z => absurd rfl z⟩
        rw [i_sub1]
        refine ih (by omega) T fT (fun i j hi hj h => hI i j hi hj (fun k hk => ?_))
        by_cases q : k = m
        · subst q
          intro e
          have hk0 : k ≠ 0 := fun z => hwm (Or.inl z)
          have ep : eA (pp k) = eA k := Classical.byContradiction (fun z => hwm (Or.inr z))
          exact h (pp k) (hL.1 k (by omega) (by omega)) (ep.trans e)
        · exact h k (by omega)
  exact key n (Nat.le_refl _) S2 (fun _ _ _ _ => rfl) (fun i j hi hj h => absurd rfl (h i hi))
