/-! The model's order from below. -/
def Pb (n : Nat) (pp : Nat → Nat) (a b : Nat) : Prop := An n pp b a ∨ (a < b ∧ ¬ An n pp a b)
def OffL (S S' : ab_S) (at' : Nat) : Prop := (∀ a b, ((a ≠ 21 ∧ a ≠ 34 ∧ a ≠ 35 ∧ a ≠ 37 ∧ a ≠ 38) ∨ b ≠ 0) → S' a b = S a b) ∧ (∀ f, f ≠ 18 → f ≠ 21 → S' 21 0 f = S 21 0 f) ∧ ∀ j, (j < at' ∨ at' + 24 ≤ j) → S' 37 0 j = S 37 0 j ∧ S' 38 0 j = S 38 0 j
theorem OffL.tr {S S1 S2 : ab_S} {x : Nat} (h : OffL S S1 x) (h2 : OffL S1 S2 x) : OffL S S2 x := ⟨fun a b z => (h2.1 a b z).trans (h.1 a b z), fun f z1 z2 => (h2.2.1 f z1 z2).trans (h.2.1 f z1 z2), fun j z => ⟨(h2.2.2 j z).1.trans (h.2.2 j z).1, (h2.2.2 j z).2.trans (h.2.2 j z).2⟩⟩
/-- an order from below, by spots -/
def PO (n : Nat) (pp eA q lf : Nat → Nat) : Prop := (∀ k, k < n → q k < n) ∧ (∀ k k', k < k' → k' < n → Pb n pp (q k) (q k')) ∧ (∀ a, a < n → ∃ k, k < n ∧ q k = a) ∧ ∀ i, i < n → lf i ≤ i ∧ (q i ≤ q (lf i) ∧ q (lf i) < eA (q i)) ∧ ∀ l, l < lf i → ¬ (q i ≤ q l ∧ q l < eA (q i))
def LI (S : ab_S) (n : Nat) (o pp eA : Nat → Nat) (at' i m tp : Nat) (st q : Nat → Nat) : Prop := (S 21 0 21 = nI tp ∧ (∀ k, k < tp → S 35 0 k = nI (o (st k)) ∧ st k < i)) ∧ (∀ k k', k < k' → k' < tp → An n pp (st k) (st k')) ∧ (∀ k, k < m → S 37 0 (at' + k) = nI (o (q k)) ∧ q k < i ∧ eA (q k) ≤ i) ∧ (∀ k k', k < k' → k' < m → Pb n pp (q k) (q k')) ∧ (∀ k k', k < m → k' < tp → Pb n pp (q k) (st k')) ∧ (∀ a, a < i → (∃ k, k < tp ∧ st k = a) ∨ ∃ k, k < m ∧ q k = a) ∧ m + tp = i
theorem LI.pop {S S1 S2 : ab_S} {n : Nat} {o pp eA : Nat → Nat} {at' i m tp : Nat} {st q : Nat → Nat} (h : LI S n o pp eA at' i m (tp + 1) st q) (he : eA (st tp) ≤ i) (e1 : S1 = ab_su S 21 0 21 (nI tp)) (e2 : S2 = ab_su S1 37 0 (at' + m) (nI (o (st tp)))) : LI S2 n o pp eA at' i (m + 1) tp st (gUp q m (st tp)) := by
  obtain ⟨⟨a1, a2⟩, a3, a4, a5, a6, a7, a8⟩ := h
  have qm : gUp q m (st tp) m = st tp := gUp_at
  have qk : ∀ k, k < m → gUp q m (st tp) k = q k := fun k hk => gUp_ne (by omega)
  refine ⟨⟨by rw [e2, su_o (by omega), e1, su_at], fun k hk => by rw [e2, su_o (by omega), e1, su_o (by omega)]; exact a2 k (by omega)⟩, fun k k' h1 h2 => a3 k k' h1 (by omega), fun k hk => ?_, fun k k' h1 h2 => ?_, fun k k' h1 h2 => ?_, fun a ha => ?_, by omega⟩
  · by_cases w : k = m
    · subst w; rw [qm, e2, su_at]; exact ⟨rfl, (a2 tp (by omega)).2, he⟩
    · rw [qk k (by omega), e2, su_j (by omega), e1, su_o (by omega)]; exact a4 k (by omega)
  · by_cases w : k' = m
    · subst w; rw [qm, qk k h1]; exact a6 k tp (by omega) (by omega)
    · rw [qk k (by omega), qk k' (by omega)]; exact a5 k k' h1 (by omega)
  · by_cases w : k = m
    · subst w; rw [qm]; exact Or.inl (a3 k' tp h2 (by omega))
    · rw [qk k (by omega)]; exact a6 k k' (by omega) (by omega)
  · rcases a7 a ha with ⟨k, hk, e⟩ | ⟨k, hk, e⟩
    · by_cases w : k = tp
      · subst w; exact Or.inr ⟨m, by omega, by rw [qm]; exact e⟩
      · exact Or.inl ⟨k, by omega, e⟩
    · exact Or.inr ⟨k, by omega, by rw [qk k hk]; exact e⟩
theorem LI.push {S S1 S2 : ab_S} {n : Nat} {o pp eA : Nat → Nat} {at' i m tp : Nat} {st q : Nat → Nat} (hL : Lp n pp) (hE : Ends n pp eA) (h : LI S n o pp eA at' i m tp st q) (hi : i < n) (htop : ∀ t, tp = t + 1 → st t < eA (st t) ∧ i < eA (st t)) (e1 : S1 = ab_su S 35 0 tp (nI (o i))) (e2 : S2 = ab_su S1 21 0 21 (nI (tp + 1))) : LI S2 n o pp eA at' (i + 1) m (tp + 1) (gUp st tp i) q := by
  obtain ⟨⟨a1, a2⟩, a3, a4, a5, a6, a7, a8⟩ := h
  have sm : gUp st tp i tp = i := gUp_at
  have sk : ∀ k, k < tp → gUp st tp i k = st k := fun k hk => gUp_ne (by omega)
  refine ⟨⟨by rw [e2, su_at], fun k hk => ?_⟩, fun k k' h1 h2 => ?_, fun k hk => ?_, a5, fun k k' h1 h2 => ?_, fun a ha => ?_, by omega⟩
  · rw [e2, su_o (by omega)]
    by_cases w : k = tp
    · subst w; rw [sm, e1, su_at]; exact ⟨rfl, by omega⟩
    · rw [sk k (by omega), e1, su_j w]; have := a2 k (by omega); exact ⟨this.1, by omega⟩
  · by_cases w : k' = tp
    · subst w
      rw [sm, sk k h1]
      obtain ⟨t, ht⟩ : ∃ t, k' = t + 1 := ⟨k' - 1, by omega⟩
      have hto := htop t ht
      have hst := (a2 t (by omega)).2
      have hsk := (a2 k h1).2
      refine (an_iff hE (by omega)).mpr ⟨hsk, ?_⟩
      by_cases w2 : k = t
      · subst w2; exact hto.2
      · have := (an_iff hE (by omega)).mp (a3 k t (by omega) (by omega))
        have := En_le hL (hE (st k) (by omega)) (hE (st t) (by omega)) (by omega) this.2
        omega
    · rw [sk k (by omega), sk k' (by omega)]; exact a3 k k' h1 (by omega)
  · have := a4 k hk
    rw [e2, su_o (by omega), e1, su_o (by omega)]
    exact ⟨this.1, by omega, by omega⟩
  · have hq := a4 k h1
    by_cases w : k' = tp
    · subst w
      rw [sm]
      refine Or.inr ⟨hq.2.1, fun z => ?_⟩
      have := ((an_iff hE (by omega)).mp z).2
      omega
    · rw [sk k' (by omega)]; exact a6 k k' h1 (by omega)
  · by_cases w : a = i
    · subst w; exact Or.inl ⟨tp, by omega, sm⟩
    · rcases a7 a (by omega) with ⟨k, hk, e⟩ | ⟨k, hk, e⟩
      · exact Or.inl ⟨k, by omega, by rw [sk k hk]; exact e⟩
      · exact Or.inr ⟨k, hk, e⟩
theorem LI.cg {S S' : ab_S} {n : Nat} {o pp eA : Nat → Nat} {at' i m tp : Nat} {st q : Nat → Nat} (h : LI S n o pp eA at' i m tp st q) (h1 : S' 21 0 21 = S 21 0 21) (h2 : S' 35 0 = S 35 0) (h3 : S' 37 0 = S 37 0) : LI S' n o pp eA at' i m tp st q := by
  unfold LI; rw [h1, h2, h3]; exact h
theorem sp_m_leave {Q : ab_Po} {S : ab_S} {u at' n : Nat} {o pp eA : Nat → Nat} {lb : Nat → Int32} (hS : Sh n o pp) (hT : TM S u n o pp lb) (hu : u < 14) (hE : Ends n pp eA) (hat : at' ≤ 24)
    (hQ : ∀ S' q lf, OffL S S' at' → PO n pp eA q lf → (∀ k, k < n → S' 37 0 (at' + k) = nI (o (q k)) ∧ S' 38 0 (at' + k) = nI (lf k)) → Q (.inl (some (nI n))) S') : Sp_X6_leave [.inr (21, 0), .inl (nI u), .inl (nI at')] S Q := by
  refine ⟨Nat.le_of_ble_eq_true rfl, fun G hG => ?_⟩
  have hn := hS.2.1
  have hL := hS.2.2.2.2.2
  have o24 := hS.2.2.2.1
  refine bl_X6_leave_0 hG _ _ S (sp_m_walk hS hT hu (fun S1 w1 w2 w3 => ?_))
  refine bl_X6_leave_5 hG _ _ S1 (fun S2 e2 => ?_)
  have off2 : OffL S S2 at' := by
    refine ⟨fun a b z => ?_, fun f z1 z2 => ?_, fun j z => ?_⟩
    · rw [e2, su_o (by omega)]; exact w1.1 a b (by omega)
    · rw [e2, su_j z2]; exact w1.2 f z1 z2
    · rw [e2, su_o (by omega), su_o (by omega), w1.1 37 0 (by omega), w1.1 38 0 (by omega)]; exact ⟨rfl, rfl⟩
  have s34 : ∀ j, j < n → S2 34 0 j = nI (o j) := fun j hj => by rw [e2, su_o (by omega)]; exact w3 j hj
  have s18 : S2 21 0 18 = nI n := by rw [e2, su_j (by decide)]; exact w2
  have hp0 : ∀ T : ab_S, OffL S T at' → T 24 0 (24 * u) = -1 := fun T hT' => by rw [hT'.1 24 0 (by omega)]; exact hT.2.1.1
  have hpp : ∀ T : ab_S, OffL S T at' → ∀ i, 0 < i → i < n → T 24 0 (24 * u + o i) = nI (o (pp i)) := fun T hT' i i0 hi => by rw [hT'.1 24 0 (by omega)]; exact (hT.2.2.1 i i0 hi).1
  -- a step of the two kinds leaves the rest
  have offPop : ∀ (T T1 T2 : ab_S) (m : Nat) (x y : Int32), m < 24 → OffL S T at' → T1 = ab_su T 21 0 21 x → T2 = ab_su T1 37 0 (at' + m) y → OffL S T2 at' ∧ T2 34 0 = T 34 0 ∧ T2 21 0 18 = T 21 0 18 := fun T T1 T2 m x y hm hT' e1 e2 => by
    refine ⟨⟨fun a b z => ?_, fun f z1 z2 => ?_, fun j z => ⟨?_, ?_⟩⟩, ?_, ?_⟩
    · rw [e2, su_o (by omega), e1, su_o (by omega)]; exact hT'.1 a b z
    · rw [e2, su_o (by omega), e1, su_j z2]; exact hT'.2.1 f z1 z2
    · rw [e2, su_j (by omega), e1, su_o (by omega)]; exact (hT'.2.2 j z).1
    · rw [e2, su_o (by omega), e1, su_o (by omega)]; exact (hT'.2.2 j z).2
    · rw [e2, su_o (by omega), e1, su_o (by omega)]
    · rw [e2, su_o (by omega), e1, su_j (by decide)]
  -- the leaves
  have leaves : ∀ (q : Nat → Nat), (∀ k, k < n → q k < n) → (∀ k k', k < k' → k' < n → Pb n pp (q k) (q k')) → (∀ a, a < n → ∃ k, k < n ∧ q k = a) → ∀ i, i ≤ n → ∀ (T : ab_S) (lf : Nat → Nat), OffL S T at' → (∀ k, k < n → T 37 0 (at' + k) = nI (o (q k))) → (∀ k, k < i → T 38 0 (at' + k) = nI (lf k) ∧ lf k ≤ k ∧ (q k ≤ q (lf k) ∧ q (lf k) < eA (q k)) ∧ ∀ l, l < lf k → ¬ (q k ≤ q l ∧ q l < eA (q k))) → G 164 [some (.inr (21, 0)), some (.inl (nI u)), some (.inl (nI at')), some (.inl (nI n)), some (.inl (nI i)), none, none] [] T 0 := by
    intro q q1 q2 q3
    refine ind_up _ ?_ ?_
    · intro T lf fT t37 t38
      refine bl_X6_leave_164 hG _ _ _ _ T (pk_le n n (fun _ => hQ T q lf fT ⟨q1, q2, q3, fun i hi => (t38 i hi).2⟩ (fun k hk => ⟨t37 k hk, (t38 k hk).1⟩)) (fun z => by omega))
    · intro i hi ih T lf fT t37 t38
      refine bl_X6_leave_164 hG _ _ _ _ T (pk_le n i (fun z => by omega) (fun _ => ?_))
      have oi := o24 (q i) (q1 i hi)
      have loop : ∀ j f, j ≤ f → f ≤ i → (q i ≤ q f ∧ q f < eA (q i)) → (∀ l, j ≤ l → l < f → ¬ (q i ≤ q l ∧ q l < eA (q i))) → G 180 [some (.inr (21, 0)), some (.inl (nI u)), some (.inl (nI at')), some (.inl (nI n)), some (.inl (nI i)), some (.inl (nI f)), some (.inl (nI j - 1))] [] T 0 := by
        intro j
        induction j with
        | zero =>
          intro f _ hf hin hno
          refine bl_X6_leave_180 hG _ _ _ _ _ _ T ⟨fun _ => ?_, fun z => absurd (by decide) z⟩
          rw [nI_add, nI_clamp (by omega), nI_1]
          refine ⟨vp_in_nI (by omega) (by decide), fun T1 e1 => ih T1 (gUp lf i f) ⟨fun a b z => ?_, fun g z1 z2 => ?_, fun j z => ⟨?_, ?_⟩⟩ (fun k hk => ?_) (fun k hk => ?_)⟩
          · rw [e1, su_o (by omega)]; exact fT.1 a b z
          · rw [e1, su_o (by omega)]; exact fT.2.1 g z1 z2
          · rw [e1, su_o (by omega)]; exact (fT.2.2 j z).1
          · rw [e1, su_j (by omega)]; exact (fT.2.2 j z).2
          · rw [e1, su_o (by omega)]; exact t37 k hk
          · by_cases w : k = i
            · subst w
              have eg : gUp lf k f k = f := gUp_at
              rw [eg, e1, su_at]
              exact ⟨rfl, hf, hin, fun l hl => hno l (by omega) hl⟩
            · have eg : gUp lf i f k = lf k := gUp_ne w
              rw [eg, e1, su_j (by omega)]
              exact t38 k (by omega)
        | succ j ihj =>
          intro f hjf hf hin hno
          rw [nI_pred]
          have oj := o24 (q j) (q1 j (by omega))
          refine bl_X6_leave_180 hG _ _ _ _ _ _ T ⟨fun z => absurd z (nI_pos (by omega)), fun _ => ?_⟩
          rw [nI_add, nI_add, nI_clamp (by omega), nI_clamp (by omega), t37 j (by omega), t37 i hi]
          refine ⟨vp_in_nI (by omega) (by decide), vp_in_nI (by omega) (by decide), ?_⟩
          refine sp_m_isAt hS (hp0 T fT) (hpp T fT) hu (q1 j (by omega)) (q1 i hi) (hE _ (q1 i hi)) ?_
          refine bl_X6_leave_208 hG _ _ _ _ _ _ _ T ?_
          rw [i_sub1]
          by_cases c : q i ≤ q j ∧ q j < eA (q i)
          · rw [if_pos c]
            exact ⟨fun z => absurd z (by decide), fun _ => ihj j (by omega) (by omega) c (fun l h1 h2 => by omega)⟩
          · rw [if_neg c]
            refine ⟨fun _ => ihj f (by omega) hf hin (fun l h1 h2 => ?_), fun z => absurd rfl z⟩
            by_cases w : l = j
            · subst w; exact c
            · exact hno l (by omega) h2
      exact loop i i (Nat.le_refl _) (Nat.le_refl _) ⟨Nat.le_refl _, (hE _ (q1 i hi)).1⟩ (fun l h1 h2 => by omega)
  -- all that is left on the stack
  have rest : ∀ tp m (T : ab_S) (st q : Nat → Nat), OffL S T at' → LI T n o pp eA at' n m tp st q → G 121 [some (.inr (21, 0)), some (.inl (nI u)), some (.inl (nI at')), some (.inl (nI m)), some (.inl (nI n)), none, none] [] T 0 := by
    intro tp
    induction tp with
    | zero =>
      intro m T st q fT hI
      obtain ⟨⟨a1, a2⟩, a3, a4, a5, a6, a7, a8⟩ := hI
      have em : m = n := by omega
      subst em
      refine bl_X6_leave_121 hG _ _ _ _ T ?_
      rw [a1]
      refine ⟨fun _ => ?_, fun z => absurd (by decide) z⟩
      exact leaves q (fun k hk => (a4 k hk).2.1) a5 (fun a ha => (a7 a ha).elim (fun ⟨k, hk, _⟩ => absurd hk (Nat.not_lt_zero k)) id) 0 (by omega) T (fun _ => 0) fT (fun k hk => (a4 k hk).1) (fun k hk => absurd hk (Nat.not_lt_zero k))
    | succ tp ih =>
      intro m T st q fT hI
      have h8 := hI.2.2.2.2.2.2
      have h21 := hI.1.1
      have h35 := (hI.1.2 tp (by omega)).1
      have hst := (hI.1.2 tp (by omega)).2
      refine bl_X6_leave_121 hG _ _ _ _ T ?_
      rw [h21]
      refine ⟨fun z => absurd z (nI_nle (by omega) (by omega)), fun _ T1 e1 => ?_⟩
      rw [nI_pred] at e1
      have t21 : T1 21 0 21 = nI tp := by rw [e1, su_at]
      have t35 : T1 35 0 tp = nI (o (st tp)) := by rw [e1, su_o (by omega)]; exact h35
      rw [t21, nI_clamp (by omega), t35, nI_add, nI_clamp (by omega), nI_1]
      refine ⟨vp_in_nI (by omega) (by decide), vp_in_nI (by omega) (by decide), fun T2 e2 => ?_⟩
      exact ih (m + 1) T2 st _ (offPop T T1 T2 m _ _ (by omega) fT e1 e2).1 (hI.pop (hE _ hst).2.1 e1 e2)
  -- the loop over all nodes
  have main : ∀ i, i ≤ n → ∀ (m tp : Nat) (T : ab_S) (st q : Nat → Nat), OffL S T at' → T 34 0 = S2 34 0 → T 21 0 18 = nI n → LI T n o pp eA at' i m tp st q → G 15 [some (.inr (21, 0)), some (.inl (nI u)), some (.inl (nI at')), some (.inl (nI m)), some (.inl (nI i)), none, none] [] T 0 := by
    refine ind_up _ ?_ ?_
    · intro m tp T st q fT f34 f18 hI
      refine bl_X6_leave_15 hG _ _ _ _ T ?_
      rw [f18]
      exact pk_le n n (fun _ => rest tp m T st q fT hI) (fun z => by omega)
    · intro i hi ih m tp T st q fT f34 f18 hI
      refine bl_X6_leave_15 hG _ _ _ _ T ?_
      rw [f18, nI_clamp (by omega), f34, s34 i hi]
      refine pk_le n i (fun z => by omega) (fun _ => ⟨vp_in_nI (by omega) (by decide), ?_⟩)
      have oi := o24 i hi
      -- a node is put on the stack
      have push : ∀ (m tp : Nat) (T T1 T2 : ab_S) (st q : Nat → Nat), OffL S T at' → T 34 0 = S2 34 0 → T 21 0 18 = nI n → LI T n o pp eA at' i m tp st q → (∀ t, tp = t + 1 → st t < eA (st t) ∧ i < eA (st t)) → T1 = ab_su T 35 0 tp (nI (o i)) → T2 = ab_su T1 21 0 21 (nI (tp + 1)) → G 15 [some (.inr (21, 0)), some (.inl (nI u)), some (.inl (nI at')), some (.inl (nI m)), some (.inl (nI (i + 1))), none, none] [] T2 0 := fun m tp T T1 T2 st q fT f34 f18 hI htop e1 e2 => by
        refine ih m (tp + 1) T2 (gUp st tp i) q ⟨fun a b z => ?_, fun f z1 z2 => ?_, fun j z => ⟨?_, ?_⟩⟩ ?_ ?_ (hI.push hL hE hi htop e1 e2)
        · rw [e2, su_o (by omega), e1, su_o (by omega)]; exact fT.1 a b z
        · rw [e2, su_j z2, e1, su_o (by omega)]; exact fT.2.1 f z1 z2
        · rw [e2, su_o (by omega), e1, su_o (by omega)]; exact (fT.2.2 j z).1
        · rw [e2, su_o (by omega), e1, su_o (by omega)]; exact (fT.2.2 j z).2
        · rw [e2, su_o (by omega), e1, su_o (by omega)]; exact f34
        · rw [e2, su_j (by decide), e1, su_o (by omega)]; exact f18
      have pops : ∀ tp m (T : ab_S) (st q : Nat → Nat), OffL S T at' → T 34 0 = S2 34 0 → T 21 0 18 = nI n → LI T n o pp eA at' i m tp st q → G 33 [some (.inr (21, 0)), some (.inl (nI u)), some (.inl (nI at')), some (.inl (nI m)), some (.inl (nI i)), some (.inl (nI (o i))), none] [] T 0 := by
        intro tp
        induction tp with
        | zero =>
          intro m T st q fT f34 f18 hI
          refine bl_X6_leave_33 hG _ _ _ _ _ T ?_
          rw [hI.1.1, nI_1]
          refine ⟨fun _ => ⟨vp_in_nI (by omega) (by decide), fun T1 e1 T2 e2 => ?_⟩, fun z => absurd (by decide) z⟩
          rw [nI_clamp (by omega)] at e1
          have t21 : T1 21 0 21 = nI 0 := by rw [e1, su_o (by omega)]; exact hI.1.1
          rw [t21, nI_1] at e2
          exact push m 0 T T1 T2 st q fT f34 f18 hI (fun t ht => by omega) e1 e2
        | succ tp ihp =>
          intro m T st q fT f34 f18 hI
          have h8 := hI.2.2.2.2.2.2
          have h21 := hI.1.1
          have h35 := (hI.1.2 tp (by omega)).1
          have hst := (hI.1.2 tp (by omega)).2
          have ost := o24 (st tp) (by omega)
          refine bl_X6_leave_33 hG _ _ _ _ _ T ?_
          rw [h21, nI_pred, nI_clamp (n := tp) (by omega), h35]
          refine ⟨fun z => absurd z (nI_nle (by omega) (by omega)), fun _ => ⟨vp_in_nI (by omega) (by decide), ?_⟩⟩
          refine sp_m_isAt hS (hp0 T fT) (hpp T fT) hu hi (by omega) (hE _ (show st tp < n by omega)) ?_
          refine bl_X6_leave_58 hG _ _ _ _ _ _ T ?_
          rw [h21]
          by_cases c : st tp ≤ i ∧ i < eA (st tp)
          · rw [if_pos c]
            refine ⟨fun z => absurd z (by decide), fun _ => ⟨vp_in_nI (by omega) (by decide), fun T1 e1 T2 e2 => ?_⟩⟩
            rw [nI_clamp (by omega)] at e1
            have t21 : T1 21 0 21 = nI (tp + 1) := by rw [e1, su_o (by omega)]; exact h21
            rw [t21, nI_1] at e2
            rw [nI_1]
            exact push m (tp + 1) T T1 T2 st q fT f34 f18 hI (fun t ht => by
              have : t = tp := by omega
              subst this
              exact ⟨(hE _ (by omega)).1, c.2⟩) e1 e2
          · rw [if_neg c]
            refine ⟨fun _ T1 e1 => ?_, fun z => absurd rfl z⟩
            rw [nI_pred] at e1
            have t21 : T1 21 0 21 = nI tp := by rw [e1, su_at]
            have t35 : T1 35 0 tp = nI (o (st tp)) := by rw [e1, su_o (by omega)]; exact h35
            rw [t21, nI_clamp (by omega), t35, nI_add, nI_clamp (by omega), nI_1]
            refine ⟨vp_in_nI (by omega) (by decide), vp_in_nI (by omega) (by decide), fun T2 e2 => ?_⟩
            obtain ⟨g1, g2, g3⟩ := offPop T T1 T2 m _ _ (by omega) fT e1 e2
            exact ihp (m + 1) T2 st _ g1 (g2.trans f34) (g3.trans f18) (hI.pop (by omega) e1 e2)
      exact pops tp m T st q fT f34 f18 hI
  refine main 0 (by omega) 0 0 S2 (fun _ => 0) (fun _ => 0) off2 rfl s18 ⟨⟨by rw [e2, su_at]; rfl, fun k hk => absurd hk (Nat.not_lt_zero k)⟩, fun k k' h1 h2 => absurd h2 (Nat.not_lt_zero k'), fun k hk => absurd hk (Nat.not_lt_zero k), fun k k' h1 h2 => absurd h2 (Nat.not_lt_zero k'), fun k k' h1 h2 => absurd h1 (Nat.not_lt_zero k), fun a ha => absurd ha (Nat.not_lt_zero a), rfl⟩
