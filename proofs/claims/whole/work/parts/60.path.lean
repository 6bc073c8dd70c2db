/-! Sets of nodes; what a path finds. -/
def Mk (n : Nat) (o : Nat → Nat) (x : Int32) (P : Nat → Prop) : Prop := ∀ j, j < 32 → (bt x j = true ↔ ∃ i, i < n ∧ o i = j ∧ P i)
theorem Mk.one {n : Nat} {o : Nat → Nat} {x y : Int32} {P : Nat → Prop} (h : Mk n o x P) (h' : Mk n o y P) : x = y := b_ext (fun i hi => Bool.eq_iff_iff.mpr ((h i hi).trans (h' i hi).symm))
theorem Mk.cg {n : Nat} {o : Nat → Nat} {x : Int32} {P P' : Nat → Prop} (h : Mk n o x P) (hp : ∀ i, i < n → (P i ↔ P' i)) : Mk n o x P' := fun j hj => (h j hj).trans ⟨fun ⟨i, a, b, c⟩ => ⟨i, a, b, (hp i a).mp c⟩, fun ⟨i, a, b, c⟩ => ⟨i, a, b, (hp i a).mpr c⟩⟩
theorem Mk.at {n : Nat} {o pp : Nat → Nat} {x : Int32} {P : Nat → Prop} (h : Mk n o x P) (hS : Sh n o pp) {i : Nat} (hi : i < n) : bt x (o i) = true ↔ P i := by
  have o24 := hS.2.2.2.1 i hi
  rw [h (o i) (by omega)]
  exact ⟨fun ⟨k, a, b, c⟩ => by have := hS.2.2.2.2.1 k i a hi b; subst this; exact c, fun c => ⟨i, hi, rfl, c⟩⟩
theorem Mk.hi {n : Nat} {o pp : Nat → Nat} {x : Int32} {P : Nat → Prop} (h : Mk n o x P) (hS : Sh n o pp) : ∀ j, 24 ≤ j → j < 32 → bt x j = false := fun j h1 h2 => by
  rw [Bool.eq_false_iff]
  intro z
  obtain ⟨i, a, b, c⟩ := (h j h2).mp z
  have := hS.2.2.2.1 i a
  omega
theorem Mk.z {n : Nat} {o : Nat → Nat} {P : Nat → Prop} (h : ∀ i, i < n → ¬ P i) : Mk n o 0 P := fun j hj => by
  rw [b_0]
  exact ⟨fun z => absurd z (by decide), fun ⟨i, a, b, c⟩ => absurd c (h i a)⟩
theorem Mk.add {n : Nat} {o pp : Nat → Nat} {x : Int32} {P : Nat → Prop} (h : Mk n o x P) (hS : Sh n o pp) {q : Nat} (hq : q < n) : Mk n o (x ||| ((1 : Int32) <<< (nI (o q) &&& 31))) (fun i => P i ∨ i = q) := fun j hj => by
  have o24 := hS.2.2.2.1 q hq
  have e := bi_one (n := o q) (j := j) (by omega) hj
  rw [bi_bt hj] at e
  rw [b_or, Bool.or_eq_true, h j hj, e]
  constructor
  · rintro (⟨i, a, b, c⟩ | z)
    · exact ⟨i, a, b, Or.inl c⟩
    · exact ⟨q, hq, z.symm, Or.inr rfl⟩
  · rintro ⟨i, a, b, c | c⟩
    · exact Or.inl ⟨i, a, b, c⟩
    · subst c; exact Or.inr b.symm
theorem Mk.inter {n : Nat} {o pp : Nat → Nat} {x y : Int32} {P P' : Nat → Prop} (h : Mk n o x P) (h' : Mk n o y P') (hS : Sh n o pp) : Mk n o (x &&& y) (fun i => P i ∧ P' i) := fun j hj => by
  rw [b_and, Bool.and_eq_true, h j hj, h' j hj]
  constructor
  · rintro ⟨⟨i, a, b, c⟩, k, a', b', c'⟩
    have := hS.2.2.2.2.1 i k a a' (b.trans b'.symm)
    subst this
    exact ⟨i, a, b, c, c'⟩
  · rintro ⟨i, a, b, c, c'⟩
    exact ⟨⟨i, a, b, c⟩, i, a, b, c'⟩
/-- j is above i -/
def An (n : Nat) (pp : Nat → Nat) (j i : Nat) : Prop := j < i ∧ ∃ e, En n pp j e ∧ i < e
theorem an_pp {n : Nat} {pp : Nat → Nat} {i j : Nat} (hL : Lp n pp) (i0 : 0 < i) (hi : i < n) : An n pp j i ↔ j = pp i ∨ An n pp j (pp i) := by
  have hp := hL.1 i i0 hi
  constructor
  · rintro ⟨a, e, he, b⟩
    have := (En_in hL he a b).1
    by_cases q : j = pp i
    · exact Or.inl q
    · exact Or.inr ⟨by omega, e, he, by omega⟩
  · rintro (q | ⟨a, e, he, b⟩)
    · obtain ⟨e, he⟩ := En_ex (pp := pp) (show j < n by omega)
      refine ⟨by omega, e, he, ?_⟩
      rcases Nat.lt_or_ge i e with z | z
      · exact z
      · have := En_out hL he z hi
        have := he.1
        omega
    · refine ⟨by omega, e, he, ?_⟩
      rcases Nat.lt_or_ge i e with z | z
      · exact z
      · have := En_out hL he z hi
        omega
def nxA (n : Nat) (pp : Nat → Nat) (ax : Int32) (P : Nat → Prop) (i : Nat) : Prop := 0 < i ∧ ((ax = 1 ∧ P (pp i)) ∨ (¬ ax = 1 ∧ ax = 2 ∧ ∃ j, P j ∧ An n pp j i) ∨ (¬ ax = 1 ∧ ¬ ax = 2 ∧ ∃ j, 0 < j ∧ j < i ∧ pp j = pp i ∧ P j))
def axOf (p : Int32) (k : Nat) : Int32 := (p >>> ((nI k * (5 : Int32)) &&& 31)) &&& 3
def lbOf (p : Int32) (k : Nat) : Int32 := ((p >>> ((nI k * (5 : Int32)) &&& 31)) >>> ((2 : Int32) &&& 31)) &&& 7
def PS (n : Nat) (o pp : Nat → Nat) (lb : Nat → Int32) (p : Int32) : Nat → Nat → Prop
  | 0 => fun i => i = 0
  | k + 1 => fun i => nxA n pp (axOf p k) (PS n o pp lb p k) i ∧ ((6 : Int32) ≤ lbOf p k ∨ lb (o i) = lbOf p k)
theorem sp_c_childrenOf {Q : ab_Po} {S : ab_S} {t n : Nat} {o pp : Nat → Nat} {lb : Nat → Int32} {x : Int32} {P : Nat → Prop} (hS : Sh n o pp) (hT : Tr S t n o pp lb) (hx : Mk n o x P) (hQ : ∀ y, Mk n o y (fun i => 0 < i ∧ P (pp i)) → Q (.inl (some y)) S) : Sp_X3_childrenOf [.inl x, .inr (4, t)] S Q := by
  refine ⟨Nat.le_of_ble_eq_true rfl, fun G hG => ?_⟩
  have hn := hS.2.1
  have hL := hS.2.2.2.2.2
  refine bl_X3_childrenOf_0 hG _ t S ?_
  have key : ∀ k, k ≤ n → 1 ≤ k → ∀ y, Mk n o y (fun i => i < k ∧ 0 < i ∧ P (pp i)) → G 4 [some (.inl x), some (.inr (4, t)), some (.inl y), some (.inl (nI k)), none] [] S 0 := by
    refine ind_up _ ?_ ?_
    · intro _ y hy
      refine bl_X3_childrenOf_4 hG _ t _ _ S ?_
      rw [hT.1]
      exact pk_le n n (fun _ => hQ y (hy.cg (fun i hi => ⟨fun z => z.2, fun z => ⟨hi, z⟩⟩))) (fun z => by omega)
    · intro k hk ih k1 y hy
      refine bl_X3_childrenOf_4 hG _ t _ _ S ?_
      have hp := hL.1 k (by omega) hk
      have o1 := hS.2.2.2.1 k hk
      have o2 := hS.2.2.2.1 (pp k) (by omega)
      rw [hT.1, nI_clamp (by omega), (hT.2.1 k hk).1, nI_clamp (by omega), hT.2.2.2 k (by omega) hk]
      refine pk_le n k (fun z => by omega) (fun _ => ⟨vp_in_nI (by omega) (by decide), vp_in_nI (by omega) (by decide), sp_c_isIn (by omega) ?_⟩)
      refine bl_X3_childrenOf_31 hG _ t _ _ _ _ S ?_
      rw [nI_1]
      by_cases c : bt x (o (pp k)) = true
      · have hP := (hx.at hS (by omega)).mp c
        rw [if_pos c]
        exact ⟨fun z => absurd z (by decide), fun _ => ih (by omega) _ ((hy.add hS hk).cg (fun i hi => ⟨fun z => by
          rcases z with z | z
          · exact ⟨by omega, z.2⟩
          · subst z; exact ⟨by omega, by omega, hP⟩, fun z => by
          by_cases q : i = k
          · exact Or.inr q
          · exact Or.inl ⟨by omega, z.2⟩⟩))⟩
      · have hP := fun z => c ((hx.at hS (by omega)).mpr z)
        rw [if_neg c]
        exact ⟨fun _ => ih (by omega) _ (hy.cg (fun i hi => ⟨fun z => ⟨by omega, z.2⟩, fun z => by
          by_cases q : i = k
          · subst q; exact absurd z.2.2 hP
          · exact ⟨by omega, z.2⟩⟩)), fun z => absurd rfl z⟩
  exact key 1 (by have := hS.1; omega) (by omega) 0 (Mk.z (fun i _ z => by omega))
theorem sp_c_below {Q : ab_Po} {S : ab_S} {t n : Nat} {o pp : Nat → Nat} {lb : Nat → Int32} {x : Int32} {P : Nat → Prop} (hS : Sh n o pp) (hT : Tr S t n o pp lb) (hx : Mk n o x P) (hQ : ∀ y, Mk n o y (fun i => ∃ j, P j ∧ An n pp j i) → Q (.inl (some y)) S) : Sp_X3_below [.inl x, .inr (4, t)] S Q := by
  refine ⟨Nat.le_of_ble_eq_true rfl, fun G hG => ?_⟩
  have hn := hS.2.1
  have hL := hS.2.2.2.2.2
  refine bl_X3_below_0 hG _ t S ?_
  have key : ∀ k, k ≤ n → 1 ≤ k → ∀ y, Mk n o y (fun i => i < k ∧ ∃ j, P j ∧ An n pp j i) → G 4 [some (.inl x), some (.inr (4, t)), some (.inl y), some (.inl (nI k)), none] [] S 0 := by
    refine ind_up _ ?_ ?_
    · intro _ y hy
      refine bl_X3_below_4 hG _ t _ _ S ?_
      rw [hT.1]
      exact pk_le n n (fun _ => hQ y (hy.cg (fun i hi => ⟨fun z => z.2, fun z => ⟨hi, z⟩⟩))) (fun z => by omega)
    · intro k hk ih k1 y hy
      refine bl_X3_below_4 hG _ t _ _ S ?_
      have hp := hL.1 k (by omega) hk
      have o1 := hS.2.2.2.1 k hk
      have o2 := hS.2.2.2.1 (pp k) (by omega)
      rw [hT.1, nI_clamp (by omega), (hT.2.1 k hk).1, nI_clamp (by omega), hT.2.2.2 k (by omega) hk]
      refine pk_le n k (fun z => by omega) (fun _ => ⟨vp_in_nI (by omega) (by decide), vp_in_nI (by omega) (by decide), sp_c_isIn (by omega) ?_⟩)
      refine bl_X3_below_33 hG _ t _ _ _ _ S ?_
      rw [nI_1]
      have hiff : bt (x ||| y) (o (pp k)) = true ↔ ∃ j, P j ∧ An n pp j k := by
        rw [b_or, Bool.or_eq_true, hx.at hS (by omega), hy.at hS (by omega)]
        constructor
        · rintro (z | ⟨_, j, a, b⟩)
          · exact ⟨pp k, z, (an_pp hL (by omega) hk).mpr (Or.inl rfl)⟩
          · exact ⟨j, a, (an_pp hL (by omega) hk).mpr (Or.inr b)⟩
        · rintro ⟨j, a, b⟩
          rcases (an_pp hL (by omega) hk).mp b with z | z
          · subst z; exact Or.inl a
          · exact Or.inr ⟨hp, j, a, z⟩
      by_cases c : bt (x ||| y) (o (pp k)) = true
      · have hP := hiff.mp c
        rw [if_pos c]
        exact ⟨fun z => absurd z (by decide), fun _ => ih (by omega) _ ((hy.add hS hk).cg (fun i hi => ⟨fun z => by
          rcases z with z | z
          · exact ⟨by omega, z.2⟩
          · subst z; exact ⟨by omega, hP⟩, fun z => by
          by_cases q : i = k
          · exact Or.inr q
          · exact Or.inl ⟨by omega, z.2⟩⟩))⟩
      · have hP := fun z => c (hiff.mpr z)
        rw [if_neg c]
        exact ⟨fun _ => ih (by omega) _ (hy.cg (fun i hi => ⟨fun z => ⟨by omega, z.2⟩, fun z => by
          by_cases q : i = k
          · subst q; exact absurd z.2 hP
          · exact ⟨by omega, z.2⟩⟩)), fun z => absurd rfl z⟩
  exact key 1 (by have := hS.1; omega) (by omega) 0 (Mk.z (fun i _ z => by obtain ⟨j, _, b⟩ := z.2; have := b.1; omega))
theorem sp_c_behind {Q : ab_Po} {S : ab_S} {t n : Nat} {o pp : Nat → Nat} {lb : Nat → Int32} {x : Int32} {P : Nat → Prop} (hS : Sh n o pp) (hT : Tr S t n o pp lb) (hx : Mk n o x P) (hQ : ∀ y, Mk n o y (fun i => ∃ j, 0 < j ∧ j < i ∧ pp j = pp i ∧ P j) → Q (.inl (some y)) S) : Sp_X3_behind [.inl x, .inr (4, t)] S Q := by
  refine ⟨Nat.le_of_ble_eq_true rfl, fun G hG => ?_⟩
  have hn := hS.2.1
  have hL := hS.2.2.2.2.2
  refine bl_X3_behind_0 hG _ t S ?_
  have key : ∀ k, k ≤ n → 1 ≤ k → ∀ y b, Mk n o y (fun i => i < k ∧ ∃ j, 0 < j ∧ j < i ∧ pp j = pp i ∧ P j) → Mk n o b (fun q => ∃ j, 0 < j ∧ j < k ∧ pp j = q ∧ P j) → G 7 [some (.inl x), some (.inr (4, t)), some (.inl y), some (.inl b), some (.inl (nI k)), none, none] [] S 0 := by
    refine ind_up _ ?_ ?_
    · intro _ y b hy hb
      refine bl_X3_behind_7 hG _ t _ _ _ S ?_
      rw [hT.1]
      exact pk_le n n (fun _ => hQ y (hy.cg (fun i hi => ⟨fun z => z.2, fun z => ⟨hi, z⟩⟩))) (fun z => by omega)
    · intro k hk ih k1 y b hy hb
      refine bl_X3_behind_7 hG _ t _ _ _ S ?_
      have hp := hL.1 k (by omega) hk
      have o1 := hS.2.2.2.1 k hk
      have o2 := hS.2.2.2.1 (pp k) (by omega)
      rw [hT.1, nI_clamp (by omega), (hT.2.1 k hk).1, nI_clamp (by omega), hT.2.2.2 k (by omega) hk]
      refine pk_le n k (fun z => by omega) (fun _ => ⟨vp_in_nI (by omega) (by decide), vp_in_nI (by omega) (by decide), sp_c_isIn (by omega) ?_⟩)
      refine bl_X3_behind_40 hG _ t _ _ _ _ _ _ S ?_
      have hiff : bt b (o (pp k)) = true ↔ ∃ j, 0 < j ∧ j < k ∧ pp j = pp k ∧ P j := hb.at hS (by omega)
      have nxt : ∀ y', Mk n o y' (fun i => i < k + 1 ∧ ∃ j, 0 < j ∧ j < i ∧ pp j = pp i ∧ P j) → Sp_X5_isIn [.inl x, .inl (nI (o k))] S (ab_back (fun _ _ => False) G 56 [some (.inl x), some (.inr (4, t)), some (.inl y'), some (.inl b), some (.inl (nI k)), some (.inl (nI (o k))), some (.inl (nI (o (pp k))))] [] 0) := fun y' hy' => by
        refine sp_c_isIn (by omega) ?_
        refine bl_X3_behind_56 hG _ t _ _ _ _ _ _ S ?_
        rw [nI_1]
        by_cases c : bt x (o k) = true
        · have hP := (hx.at hS hk).mp c
          rw [if_pos c]
          exact ⟨fun z => absurd z (by decide), fun _ => ih (by omega) _ _ hy' ((hb.add hS (show pp k < n by omega)).cg (fun q hq => ⟨fun z => by
            rcases z with ⟨j, a, b', c', d⟩ | z
            · exact ⟨j, a, by omega, c', d⟩
            · exact ⟨k, by omega, by omega, z.symm, hP⟩, fun ⟨j, a, b', c', d⟩ => by
            by_cases w : j = k
            · subst w; exact Or.inr c'.symm
            · exact Or.inl ⟨j, a, by omega, c', d⟩⟩))⟩
        · have hP := fun z => c ((hx.at hS hk).mpr z)
          rw [if_neg c]
          exact ⟨fun _ => ih (by omega) _ _ hy' (hb.cg (fun q hq => ⟨fun ⟨j, a, b', c', d⟩ => ⟨j, a, by omega, c', d⟩, fun ⟨j, a, b', c', d⟩ => by
            by_cases w : j = k
            · subst w; exact absurd d hP
            · exact ⟨j, a, by omega, c', d⟩⟩)), fun z => absurd rfl z⟩
      by_cases c : bt b (o (pp k)) = true
      · have hP := hiff.mp c
        rw [if_pos c]
        exact ⟨fun z => absurd z (by decide), fun _ => nxt _ ((hy.add hS hk).cg (fun i hi => ⟨fun z => by
          rcases z with z | z
          · exact ⟨by omega, z.2⟩
          · subst z; exact ⟨by omega, hP⟩, fun z => by
          by_cases q : i = k
          · exact Or.inr q
          · exact Or.inl ⟨by omega, z.2⟩⟩))⟩
      · have hP := fun z => c (hiff.mpr z)
        rw [if_neg c]
        exact ⟨fun _ => nxt _ (hy.cg (fun i hi => ⟨fun z => ⟨by omega, z.2⟩, fun z => by
          by_cases q : i = k
          · subst q; exact absurd z.2 hP
          · exact ⟨by omega, z.2⟩⟩)), fun z => absurd rfl z⟩
  exact key 1 (by have := hS.1; omega) (by omega) 0 0 (Mk.z (fun i _ z => by obtain ⟨j, a, b, _⟩ := z.2; omega)) (Mk.z (fun i _ z => by obtain ⟨j, a, b, _⟩ := z; omega))
theorem sp_c_along {Q : ab_Po} {S : ab_S} {t n : Nat} {o pp : Nat → Nat} {lb : Nat → Int32} {x ax : Int32} {P : Nat → Prop} (hS : Sh n o pp) (hT : Tr S t n o pp lb) (hx : Mk n o x P) (hQ : ∀ y, Mk n o y (nxA n pp ax P) → Q (.inl (some y)) S) : Sp_X3_alongAxis [.inl ax, .inl x, .inr (4, t)] S Q := by
  refine ⟨Nat.le_of_ble_eq_true rfl, fun G hG => ?_⟩
  refine bl_X3_alongAxis_0 hG _ _ t S ⟨fun e => sp_c_childrenOf hS hT hx (fun y hy => bl_X3_alongAxis_10 hG _ _ t _ S (hQ y (hy.cg (fun i hi => ⟨fun z => ⟨z.1, Or.inl ⟨e, z.2⟩⟩, fun z => ?_⟩)))), fun e => ⟨fun e2 => sp_c_below hS hT hx (fun y hy => bl_X3_alongAxis_21 hG _ _ t _ S (hQ y (hy.cg (fun i hi => ⟨fun z => ⟨?_, Or.inr (Or.inl ⟨e, e2, z⟩)⟩, fun z => ?_⟩)))), fun e2 => sp_c_behind hS hT hx (fun y hy => bl_X3_alongAxis_29 hG _ _ t _ S (hQ y (hy.cg (fun i hi => ⟨fun z => ⟨?_, Or.inr (Or.inr ⟨e, e2, z⟩)⟩, fun z => ?_⟩))))⟩⟩
  · rcases z.2 with w | w | w
    · exact ⟨z.1, w.2⟩
    · exact absurd e w.1
    · exact absurd e w.1
  · obtain ⟨j, _, b⟩ := z; have := b.1; omega
  · rcases z.2 with w | w | w
    · exact absurd w.1 e
    · exact w.2.2
    · exact absurd e2 w.2.1
  · obtain ⟨j, a, b, _⟩ := z; omega
  · rcases z.2 with w | w | w
    · exact absurd w.1 e
    · exact absurd w.2.1 e2
    · exact w.2.2
theorem sp_c_labelled {Q : ab_Po} {S : ab_S} {t n : Nat} {o pp : Nat → Nat} {lb : Nat → Int32} {l : Int32} (hS : Sh n o pp) (hT : Tr S t n o pp lb) (hQ : ∀ y, Mk n o y (fun i => (6 : Int32) ≤ l ∨ lb (o i) = l) → Q (.inl (some y)) S) : Sp_X3_labelled [.inl l, .inr (4, t)] S Q := by
  refine ⟨Nat.le_of_ble_eq_true rfl, fun G hG => ?_⟩
  have hn := hS.2.1
  refine bl_X3_labelled_0 hG _ t S ?_
  have key : ∀ k, k ≤ n → ∀ y, Mk n o y (fun i => i < k ∧ ((6 : Int32) ≤ l ∨ lb (o i) = l)) → G 4 [some (.inl l), some (.inr (4, t)), some (.inl y), some (.inl (nI k)), none] [] S 0 := by
    refine ind_up _ ?_ ?_
    · intro y hy
      refine bl_X3_labelled_4 hG _ t _ _ S ?_
      rw [hT.1]
      exact pk_le n n (fun _ => hQ y (hy.cg (fun i hi => ⟨fun z => z.2, fun z => ⟨hi, z⟩⟩))) (fun z => by omega)
    · intro k hk ih y hy
      refine bl_X3_labelled_4 hG _ t _ _ S ?_
      have o1 := hS.2.2.2.1 k hk
      have yes : ((6 : Int32) ≤ l ∨ lb (o k) = l) → G 4 [some (.inl l), some (.inr (4, t)), some (.inl (y ||| ((1 : Int32) <<< (nI (o k) &&& 31)))), some (.inl (nI (k + 1))), none] [] S 0 := fun hP => ih _ ((hy.add hS hk).cg (fun i hi => ⟨fun z => by
          rcases z with z | z
          · exact ⟨by omega, z.2⟩
          · subst z; exact ⟨by omega, hP⟩, fun z => by
          by_cases q : i = k
          · exact Or.inr q
          · exact Or.inl ⟨by omega, z.2⟩⟩))
      rw [hT.1, nI_clamp (by omega), (hT.2.1 k hk).1, nI_clamp (by omega), (hT.2.1 k hk).2.2, nI_1]
      refine pk_le n k (fun z => by omega) (fun _ => ⟨vp_in_nI (by omega) (by decide), fun h6 => yes (Or.inl h6), fun h6 => ⟨vp_in_nI (by omega) (by decide), fun hl => yes (Or.inr hl), fun hl => ih _ (hy.cg (fun i hi => ⟨fun z => ⟨by omega, z.2⟩, fun z => ?_⟩))⟩⟩)
      by_cases q : i = k
      · subst q; rcases z.2 with w | w
        · exact absurd w h6
        · exact absurd w hl
      · exact ⟨by omega, z.2⟩
  exact key 0 (by omega) 0 (Mk.z (fun i _ z => by omega))
theorem sp_c_follow {Q : ab_Po} {S : ab_S} {t n : Nat} {o pp : Nat → Nat} {lb : Nat → Int32} {p : Int32} (hS : Sh n o pp) (hT : Tr S t n o pp lb) (hQ : ∀ k y, k ≤ 6 → (∀ j, j < k → ¬ axOf p j = 0) → (k = 6 ∨ axOf p k = 0) → Mk n o y (PS n o pp lb p k) → Q (.inl (some y)) S) : Sp_X3_follow [.inl p, .inr (4, t)] S Q := by
  refine ⟨Nat.le_of_ble_eq_true rfl, fun G hG => ?_⟩
  refine bl_X3_follow_0 hG _ t S ?_
  have key : ∀ k, k ≤ 6 → ∀ y, (∀ j, j < k → ¬ axOf p j = 0) → Mk n o y (PS n o pp lb p k) → G 4 [some (.inl p), some (.inr (4, t)), some (.inl y), some (.inl (nI k)), none, none] [] S 0 := by
    refine ind_up _ ?_ ?_
    · intro y hb hy
      exact bl_X3_follow_4 hG _ t _ _ S ⟨fun _ => hQ 6 y (by omega) hb (Or.inl rfl) hy, fun z => absurd (by decide) z⟩
    · intro k hk ih y hb hy
      refine bl_X3_follow_4 hG _ t _ _ S ⟨fun z => absurd z (nI_ge (b := 6) hk (by decide)), fun _ => ⟨fun h0 => hQ k y (by omega) hb (Or.inr h0) hy, fun h0 => ?_⟩⟩
      refine sp_c_along hS hT hy (fun y1 hy1 => ?_)
      refine bl_X3_follow_38 hG _ t _ _ _ _ _ S ?_
      refine sp_c_labelled hS hT (fun y2 hy2 => ?_)
      refine bl_X3_follow_49 hG _ t _ _ _ _ _ _ S ?_
      rw [nI_1]
      exact ih _ (fun j hj => by
        by_cases q : j = k
        · subst q; exact h0
        · exact hb j (by omega)) (hy1.inter hy2 hS)
  refine key 0 (by omega) 1 (fun j hj => by omega) (fun j hj => ?_)
  rw [b_1 j hj, decide_eq_true_iff]
  exact ⟨fun z => ⟨0, hS.1, by rw [hS.2.2.1, z], rfl⟩, fun ⟨i, a, b, c⟩ => by have c' : i = 0 := c; rw [← b, c', hS.2.2.1]⟩
