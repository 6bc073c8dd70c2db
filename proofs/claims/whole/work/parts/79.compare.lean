/-! The model's distance: rows of parts in the order from below. -/
def Qv (q : Nat → Nat) (x p : Nat) (a : Nat) : Prop := ∃ k, x ≤ k ∧ k < p ∧ q k = a
theorem PO.T {n : Nat} {pp eA q lf : Nat → Nat} (hL : Lp n pp) (hE : Ends n pp eA) (h : PO n pp eA q lf) {k p : Nat} (hk : k ≤ p) (hp : p < n) : (q p ≤ q k ∧ q k < eA (q p)) ↔ lf p ≤ k := by
  obtain ⟨l1, l2, l3⟩ := h.2.2.2 p hp
  constructor
  · intro z
    rcases Nat.lt_or_ge k (lf p) with w | w
    · exact absurd z (l3 k w)
    · exact w
  · intro z
    by_cases e1 : k = p
    · subst e1; exact ⟨Nat.le_refl _, (hE _ (h.1 k hp)).1⟩
    by_cases e2 : k = lf p
    · rw [e2]; exact l2
    have b1 := h.2.1 (lf p) k (by omega) (by omega)
    have b2 := h.2.1 k p (by omega) hp
    rcases b2 with w | ⟨w1, w2⟩
    · have := (an_iff hE (h.1 p hp)).mp w
      exact ⟨by omega, this.2⟩
    · exfalso
      rcases b1 with v | ⟨v1, v2⟩
      · have v' := (an_iff hE (h.1 k (by omega))).mp v
        exact w2 ((an_iff hE (h.1 k (by omega))).mpr ⟨w1, by omega⟩)
      · omega
theorem PO.bef {n : Nat} {pp eA q lf : Nat → Nat} (hL : Lp n pp) (hE : Ends n pp eA) (h : PO n pp eA q lf) {k p : Nat} (hk : k < p) (hp : p < n) : (lf p ≤ k → q p < q k ∧ An n pp (q p) (q k)) ∧ (k < lf p → q k < q p ∧ eA (q k) ≤ q p) := by
  have ht := h.T hL hE (Nat.le_of_lt hk) hp
  have hne : q k ≠ q p := fun e => by
    have := h.2.1 k p hk hp
    rw [e] at this
    rcases this with w | w
    · exact absurd w.1 (Nat.lt_irrefl _)
    · exact absurd w.1 (Nat.lt_irrefl _)
  refine ⟨fun z => ?_, fun z => ?_⟩
  · have := ht.mpr z
    exact ⟨by omega, (an_iff hE (h.1 p hp)).mpr ⟨by omega, this.2⟩⟩
  · have hn : ¬ (q p ≤ q k ∧ q k < eA (q p)) := fun w => by have := ht.mp w; omega
    rcases h.2.1 k p hk hp with w | ⟨w1, w2⟩
    · have := (an_iff hE (h.1 p hp)).mp w
      exact absurd ⟨by omega, this.2⟩ hn
    · refine ⟨w1, ?_⟩
      rcases Nat.lt_or_ge (q p) (eA (q k)) with v | v
      · exact absurd ((an_iff hE (h.1 k (by omega))).mpr ⟨w1, v⟩) w2
      · exact v
theorem PO.le {n : Nat} {pp eA q lf : Nat → Nat} (hL : Lp n pp) (hE : Ends n pp eA) (h : PO n pp eA q lf) {p i : Nat} (h1 : lf i ≤ p) (h2 : p ≤ i) (hi : i < n) : lf i ≤ lf p := by
  have a := (h.T hL hE h2 hi).mpr h1
  obtain ⟨l1, l2, l3⟩ := h.2.2.2 p (by omega)
  refine (h.T hL hE (by omega) hi).mp ?_
  have := En_le hL (hE _ (h.1 i hi)) (hE _ (h.1 p (by omega))) a.1 a.2
  omega
def Dm (n : Nat) (pp q : Nat → Nat) (la : Nat → Int32) (n' : Nat) (pp' q' : Nat → Nat) (lb : Nat → Int32) (x p y r d : Nat) : Prop := Ds (An n pp) (An n' pp') la lb (Qv q x p) (p - x) (Qv q' y r) (r - y) d
theorem Qv_s {q : Nat → Nat} {x p a : Nat} (h : x ≤ p) : Qv q x (p + 1) a ↔ a = q p ∨ Qv q x p a := by
  constructor
  · rintro ⟨k, h1, h2, e⟩
    by_cases w : k = p
    · subst w; exact Or.inl e.symm
    · exact Or.inr ⟨k, h1, by omega, e⟩
  · rintro (e | ⟨k, h1, h2, e⟩)
    · exact ⟨p, h, by omega, e.symm⟩
    · exact ⟨k, h1, by omega, e⟩
theorem Qv_sp {q : Nat → Nat} {x l p a : Nat} (h1 : x ≤ l) (h2 : l ≤ p) : Qv q x p a ↔ Qv q l p a ∨ Qv q x l a := by
  constructor
  · rintro ⟨k, k1, k2, e⟩
    rcases Nat.lt_or_ge k l with w | w
    · exact Or.inr ⟨k, k1, w, e⟩
    · exact Or.inl ⟨k, w, k2, e⟩
  · rintro (⟨k, k1, k2, e⟩ | ⟨k, k1, k2, e⟩)
    · exact ⟨k, by omega, k2, e⟩
    · exact ⟨k, k1, by omega, e⟩
theorem Dm.base {n : Nat} {pp q : Nat → Nat} {la : Nat → Int32} {n' : Nat} {pp' q' : Nat → Nat} {lb : Nat → Int32} {x p y r : Nat} (h : p ≤ x ∨ r ≤ y) : Dm n pp q la n' pp' q' lb x p y r ((p - x) + (r - y)) := by
  refine Ds.nil (h.elim (fun h => Or.inl (fun a z => ?_)) (fun h => Or.inr (fun a z => ?_)))
  · obtain ⟨k, h1, h2, _⟩ := z; omega
  · obtain ⟨k, h1, h2, _⟩ := z; omega
theorem Dm.span {n : Nat} {pp eA q lf : Nat → Nat} {la : Nat → Int32} {n' : Nat} {pp' eB q' lf' : Nat → Nat} {lb : Nat → Int32} {p r d1 d2 d3 : Nat} (hL : Lp n pp) (hL' : Lp n' pp') (hA : Ends n pp eA) (hB : Ends n' pp' eB) (oA : PO n pp eA q lf) (oB : PO n' pp' eB q' lf') (hp : p < n) (hr : r < n') (h1 : Dm n pp q la n' pp' q' lb (lf p) p (lf' r) (r + 1) d1) (h2 : Dm n pp q la n' pp' q' lb (lf p) (p + 1) (lf' r) r d2) (h3 : Dm n pp q la n' pp' q' lb (lf p) p (lf' r) r d3) :
    Dm n pp q la n' pp' q' lb (lf p) (p + 1) (lf' r) (r + 1) (min (min d1 d2 + 1) (d3 + chg la lb (q p) (q' r))) := by
  have a1 := (oA.2.2.2 p hp).1
  have b1 := (oB.2.2.2 r hr).1
  unfold Dm at *
  rw [show p + 1 - lf p = (p - lf p) + 1 by omega] at h2 ⊢
  rw [show r + 1 - lf' r = (r - lf' r) + 1 by omega] at h1 ⊢
  refine Ds.span (fun a => Qv_s a1) (fun b => Qv_s b1) (fun a ha => ?_) (fun b hb => ?_) h1 h2 h3
  · obtain ⟨k, k1, k2, rfl⟩ := ha
    exact (oA.bef hL hA k2 hp).1 k1
  · obtain ⟨k, k1, k2, rfl⟩ := hb
    exact (oB.bef hL' hB k2 hr).1 k1
theorem Dm.split {n : Nat} {pp eA q lf : Nat → Nat} {la : Nat → Int32} {n' : Nat} {pp' eB q' lf' : Nat → Nat} {lb : Nat → Int32} {x p y r d1 d2 d3 d4 : Nat} (hL : Lp n pp) (hL' : Lp n' pp') (hA : Ends n pp eA) (hB : Ends n' pp' eB) (oA : PO n pp eA q lf) (oB : PO n' pp' eB q' lf') (hp : p < n) (hr : r < n') (hx : x ≤ lf p) (hy : y ≤ lf' r) (h1 : Dm n pp q la n' pp' q' lb x p y (r + 1) d1) (h2 : Dm n pp q la n' pp' q' lb x (p + 1) y r d2) (h3 : Dm n pp q la n' pp' q' lb (lf p) (p + 1) (lf' r) (r + 1) d3) (h4 : Dm n pp q la n' pp' q' lb x (lf p) y (lf' r) d4) :
    Dm n pp q la n' pp' q' lb x (p + 1) y (r + 1) (min (min d1 d2 + 1) (d4 + d3)) := by
  have a1 := (oA.2.2.2 p hp).1
  have b1 := (oB.2.2.2 r hr).1
  unfold Dm at *
  rw [show p + 1 - x = (p - x) + 1 by omega] at h2 ⊢
  rw [show r + 1 - y = (r - y) + 1 by omega] at h1 ⊢
  -- where a node of a row stands to its last one
  have posA : ∀ a, Qv q x (p + 1) a → a = q p ∨ (An n pp (q p) a ∧ q p < a ∧ Qv q (lf p) (p + 1) a) ∨ (a < q p ∧ eA a ≤ q p ∧ a < n ∧ Qv q x (lf p) a) := fun a ⟨k, k1, k2, e⟩ => by
    subst e
    by_cases w : k = p
    · subst w; exact Or.inl rfl
    · rcases Nat.lt_or_ge k (lf p) with v | v
      · have := (oA.bef hL hA (show k < p by omega) hp).2 v
        exact Or.inr (Or.inr ⟨this.1, this.2, oA.1 k (by omega), k, k1, v, rfl⟩)
      · have := (oA.bef hL hA (show k < p by omega) hp).1 v
        exact Or.inr (Or.inl ⟨this.2, this.1, k, v, k2, rfl⟩)
  have posB : ∀ b, Qv q' y (r + 1) b → b = q' r ∨ (An n' pp' (q' r) b ∧ q' r < b ∧ Qv q' (lf' r) (r + 1) b) ∨ (b < q' r ∧ eB b ≤ q' r ∧ b < n' ∧ Qv q' y (lf' r) b) := fun a ⟨k, k1, k2, e⟩ => by
    subst e
    by_cases w : k = r
    · subst w; exact Or.inl rfl
    · rcases Nat.lt_or_ge k (lf' r) with v | v
      · have := (oB.bef hL' hB (show k < r by omega) hr).2 v
        exact Or.inr (Or.inr ⟨this.1, this.2, oB.1 k (by omega), k, k1, v, rfl⟩)
      · have := (oB.bef hL' hB (show k < r by omega) hr).1 v
        exact Or.inr (Or.inl ⟨this.2, this.1, k, v, k2, rfl⟩)
  have noA : ∀ a, a < n → eA a ≤ q p → ¬ An n pp a (q p) := fun a ha h z => by have := ((an_iff hA ha).mp z).2; omega
  have noB : ∀ b, b < n' → eB b ≤ q' r → ¬ An n' pp' b (q' r) := fun b hb h z => by have := ((an_iff hB hb).mp z).2; omega
  refine Ds.split (r := q p) (r' := q' r) (T := Qv q (lf p) (p + 1)) (T' := Qv q' (lf' r) (r + 1)) (R := Qv q x (lf p)) (R' := Qv q' y (lf' r)) (fun a => Qv_s (by omega)) (fun b => Qv_s (by omega)) (fun a => Qv_sp hx (by omega)) (fun b => Qv_sp hy (by omega)) (by omega) (by omega) (fun M hM c1 c2 => ?_) (Or.inr ⟨fun a a' ha ha' => ?_, fun b b' hb hb' => ?_⟩) h1 h2 h3 h4
  · obtain ⟨b, hb⟩ := c1
    obtain ⟨a, ha⟩ := c2
    have bx := (hM.2 _ hb).2
    have ax := (hM.2 _ ha).1
    have hij : (q p, q' r) ∈ M := by
      rcases hM.cmp hb ha with z | z | z
      · have z1 : b = q' r := (Prod.mk.inj z).2
        rw [z1] at hb; exact hb
      · exfalso
        have z1 : q p < a := z.1
        have z2 : b < q' r := z.2.1
        have z3 : An n pp (q p) a ↔ An n' pp' b (q' r) := z.2.2
        rcases posA a ax with w | w | w
        · omega
        · rcases posB b bx with v | v | v
          · omega
          · have := v.2.1; omega
          · exact noB b v.2.2.1 v.2.1 (z3.mp w.1)
        · have := w.1; omega
      · exfalso
        have z1 : a < q p := z.1
        have z2 : q' r < b := z.2.1
        have z3 : An n pp a (q p) ↔ An n' pp' (q' r) b := z.2.2
        rcases posB b bx with w | w | w
        · omega
        · rcases posA a ax with v | v | v
          · omega
          · have := v.2.1; omega
          · exact noA a v.2.2.1 v.2.1 (z3.mpr w.1)
        · have := w.1; omega
    intro m hm
    obtain ⟨x1, x2⟩ := hM.2 m hm
    have tP : Qv q (lf p) (p + 1) (q p) := ⟨p, a1, by omega, rfl⟩
    have tR : Qv q' (lf' r) (r + 1) (q' r) := ⟨r, b1, by omega, rfl⟩
    rcases hM.cmp hij hm with z | z | z
    · subst z; exact Or.inl ⟨tP, tR⟩
    · have z1 : q p < m.1 := z.1
      have z2 : q' r < m.2 := z.2.1
      left
      refine ⟨?_, ?_⟩
      · rcases posA _ x1 with w | w | w
        · omega
        · exact w.2.2
        · have := w.1; omega
      · rcases posB _ x2 with w | w | w
        · omega
        · exact w.2.2
        · have := w.1; omega
    · have z1 : m.1 < q p := z.1
      have z2 : m.2 < q' r := z.2.1
      right
      refine ⟨?_, ?_⟩
      · rcases posA _ x1 with w | w | w
        · omega
        · have := w.2.1; omega
        · exact w.2.2.2
      · rcases posB _ x2 with w | w | w
        · omega
        · have := w.2.1; omega
        · exact w.2.2.2
  · obtain ⟨k, k1, k2, rfl⟩ := ha
    obtain ⟨k', k1', k2', rfl⟩ := ha'
    have t := (oA.T hL hA (show k ≤ p by omega) hp).mpr k1
    have g := (oA.bef hL hA (show k' < p by omega) hp).2 k2'
    exact ⟨by omega, fun z => by have := ((an_iff hA (oA.1 k' (by omega))).mp z).2; omega⟩
  · obtain ⟨k, k1, k2, rfl⟩ := hb
    obtain ⟨k', k1', k2', rfl⟩ := hb'
    have t := (oB.T hL' hB (show k ≤ r by omega) hr).mpr k1
    have g := (oB.bef hL' hB (show k' < r by omega) hr).2 k2'
    exact ⟨by omega, fun z => by have := ((an_iff hB (oB.1 k' (by omega))).mp z).2; omega⟩
/-! Its rows. -/
theorem sp_m_least {Q : ab_Po} {S : ab_S} {a b : Nat} (ha : a ≤ 1000) (hb : b ≤ 1000) (hQ : Q (.inl (some (nI (min a b)))) S) : Sp_X6_least [.inl (nI a), .inl (nI b)] S Q := by
  refine ⟨Nat.le_of_ble_eq_true rfl, fun G hG => ?_⟩
  refine bl_X6_least_0 hG _ _ S (pk_le b a (fun z => ?_) (fun z => ?_))
  · rw [Nat.min_eq_right z] at hQ; exact hQ
  · rw [Nat.min_eq_left (by omega)] at hQ; exact hQ
theorem i_a (a b : Int32) : (a - 1 - b) + 1 = a - b := by
  rw [Int32.sub_eq_add_neg, Int32.sub_eq_add_neg, Int32.sub_eq_add_neg, Int32.add_assoc, Int32.add_assoc, Int32.add_comm (-b) 1, ← Int32.add_assoc (-1) 1 (-b), Int32.add_left_neg, Int32.zero_add]
theorem i_b (c a b : Int32) : (c + (a - 1) - b) + 1 = c + (a - b) := by
  rw [← i_a a b, Int32.sub_eq_add_neg (c + (a - 1)) b, Int32.add_assoc, Int32.add_assoc, Int32.sub_eq_add_neg (a - 1) b, Int32.add_assoc (a - 1)]
theorem i_c (a : Nat) : nI a - 1 + 1 = nI (a + 1) - 1 := by
  rw [nI_pred, Int32.sub_add_cancel]
def TV (n : Nat) (pp q lf : Nat → Nat) (la : Nat → Int32) (n' : Nat) (pp' q' lf' : Nat → Nat) (lb : Nat → Int32) (S : ab_S) (p r : Nat) : Prop := ∃ d, S 39 0 (24 * p + r) = nI d ∧ Dm n pp q la n' pp' q' lb (lf p) (p + 1) (lf' r) (r + 1) d
def FV (n : Nat) (pp q : Nat → Nat) (la : Nat → Int32) (n' : Nat) (pp' q' : Nat → Nat) (lb : Nat → Int32) (x y : Nat) (S : ab_S) (p r : Nat) : Prop := ∃ d, S 40 0 (25 * (p - x) + (r - y)) = nI d ∧ Dm n pp q la n' pp' q' lb x p y r d
def OffF (S S' : ab_S) : Prop := ∀ a b, ((a ≠ 39 ∧ a ≠ 40) ∨ b ≠ 0) → S' a b = S a b
theorem sp_m_compare {Q : ab_Po} {S : ab_S} {u u' n n' i j : Nat} {o pp eA q lf o' pp' eB q' lf' : Nat → Nat} {lb lb' : Nat → Int32} (hS : Sh n o pp) (hS' : Sh n' o' pp') (hT : TM S u n o pp lb) (hT' : TM S u' n' o' pp' lb') (hu : u < 14) (hu' : u' < 14) (hA : Ends n pp eA) (hB : Ends n' pp' eB) (oA : PO n pp eA q lf) (oB : PO n' pp' eB q' lf') (pA : ∀ k, k < n → S 37 0 k = nI (o (q k)) ∧ S 38 0 k = nI (lf k)) (pB : ∀ k, k < n' → S 37 0 (24 + k) = nI (o' (q' k)) ∧ S 38 0 (24 + k) = nI (lf' k)) (hi : i < n) (hj : j < n')
    (hP : ∀ p r, lf i ≤ p → p ≤ i → lf' j ≤ r → r ≤ j → ¬ (lf p = lf i ∧ lf' r = lf' j) → TV n pp q lf (fun a => lb (o a)) n' pp' q' lf' (fun a => lb' (o' a)) S p r)
    (hQ : ∀ S', OffF S S' → (∀ p r, lf i ≤ p → p ≤ i → lf' j ≤ r → r ≤ j → lf p = lf i → lf' r = lf' j → TV n pp q lf (fun a => lb (o a)) n' pp' q' lf' (fun a => lb' (o' a)) S' p r) → (∀ p r, p < 24 → r < 24 → ¬ (lf i ≤ p ∧ p ≤ i ∧ lf' j ≤ r ∧ r ≤ j ∧ lf p = lf i ∧ lf' r = lf' j) → S' 39 0 (24 * p + r) = S 39 0 (24 * p + r)) → Q (.inl none) S') : Sp_X6_compare [.inr (21, 0), .inl (nI u), .inl (nI u'), .inl (nI i), .inl (nI j)] S Q := by
  refine ⟨Nat.le_of_ble_eq_true rfl, fun G hG => ?_⟩
  have hn := hS.2.1
  have hn' := hS'.2.1
  have hL := hS.2.2.2.2.2
  have hL' := hS'.2.2.2.2.2
  have xi := (oA.2.2.2 i hi).1
  have yj := (oB.2.2.2 j hj).1
  refine bl_X6_compare_0 hG _ _ _ _ S ?_
  have c24 : ∀ k, (24 : Int32) + nI k = nI (24 + k) := fun k => by rw [show (24 : Int32) = nI 24 from rfl, nI_add]
  rw [c24, nI_clamp (by omega), nI_clamp (by omega), (pA i hi).2, (pB j hj).2]
  refine ⟨vp_in_nI (by omega) (by decide), vp_in_nI (by omega) (by decide), ?_⟩
  -- a row from column r' on; rows below p' are done
  have inner : ∀ p', lf i ≤ p' → p' ≤ i + 1 →
      (∀ T : ab_S, OffF S T → (∀ p r, lf i ≤ p → p ≤ p' → lf' j ≤ r → r ≤ j + 1 → FV n pp q (fun a => lb (o a)) n' pp' q' (fun a => lb' (o' a)) (lf i) (lf' j) T p r) → (∀ p r, lf i ≤ p → p < p' → lf' j ≤ r → r ≤ j → lf p = lf i → lf' r = lf' j → TV n pp q lf (fun a => lb (o a)) n' pp' q' lf' (fun a => lb' (o' a)) T p r) → (∀ p r, p < 24 → r < 24 → ¬ (lf i ≤ p ∧ p ≤ i ∧ lf' j ≤ r ∧ r ≤ j ∧ lf p = lf i ∧ lf' r = lf' j) → T 39 0 (24 * p + r) = S 39 0 (24 * p + r)) → G 26 [some (.inr (21, 0)), some (.inl (nI u)), some (.inl (nI u')), some (.inl (nI i)), some (.inl (nI j)), some (.inl (nI (lf i))), some (.inl (nI (lf' j))), some (.inl (nI (p' + 1) - 1)), none, none, none, none] [] T 0) →
      ∀ k r', r' + k = j + 2 → lf' j ≤ r' → ∀ T : ab_S, OffF S T → (∀ p r, lf i ≤ p → p < p' → lf' j ≤ r → r ≤ j + 1 → FV n pp q (fun a => lb (o a)) n' pp' q' (fun a => lb' (o' a)) (lf i) (lf' j) T p r) → (∀ r, lf' j ≤ r → r < r' → FV n pp q (fun a => lb (o a)) n' pp' q' (fun a => lb' (o' a)) (lf i) (lf' j) T p' r) → (∀ p r, lf i ≤ p → p + 1 < p' → lf' j ≤ r → r ≤ j → lf p = lf i → lf' r = lf' j → TV n pp q lf (fun a => lb (o a)) n' pp' q' lf' (fun a => lb' (o' a)) T p r) → (∀ p r, p + 1 = p' → lf i ≤ p → lf' j ≤ r → r + 1 < r' → lf p = lf i → lf' r = lf' j → TV n pp q lf (fun a => lb (o a)) n' pp' q' lf' (fun a => lb' (o' a)) T p r) → (∀ p r, p < 24 → r < 24 → ¬ (lf i ≤ p ∧ p ≤ i ∧ lf' j ≤ r ∧ r ≤ j ∧ lf p = lf i ∧ lf' r = lf' j) → T 39 0 (24 * p + r) = S 39 0 (24 * p + r)) → G 38 [some (.inr (21, 0)), some (.inl (nI u)), some (.inl (nI u')), some (.inl (nI i)), some (.inl (nI j)), some (.inl (nI (lf i))), some (.inl (nI (lf' j))), some (.inl (nI p' - 1)), some (.inl (nI r' - 1)), none, none, none] [] T 0 := by
    intro p' hp1 hp2 nextRow k
    induction k with
    | zero =>
      intro r' hr _ T fT f1 f2 t1 t2 t3
      have er : r' = (j + 1) + 1 := by omega
      subst er
      rw [nI_pred]
      refine bl_X6_compare_38 hG _ _ _ _ _ _ _ _ T ⟨fun _ => ?_, fun z => absurd (nI_lt (by omega) (by omega)) z⟩
      rw [i_c]
      refine nextRow T fT (fun p r h1 h2 h3 h4 => ?_) (fun p r h1 h2 h3 h4 x1 x2 => ?_) t3
      · by_cases w : p = p'
        · subst w; exact f2 r h3 (by omega)
        · exact f1 p r h1 (by omega) h3 h4
      · by_cases w : p + 1 = p'
        · exact t2 p r w h1 h3 (by omega) x1 x2
        · exact t1 p r h1 (by omega) h3 h4 x1 x2
    | succ k ih =>
      intro r' hr hr1 T fT f1 f2 t1 t2 t3
      have nlt : ¬ nI j < nI r' - 1 := by
        rcases r' with _ | r
        · intro z
          rw [Int32.lt_iff_toInt_lt, nI_toInt (by omega), show (nI 0 - 1).toInt = -1 by decide] at z
          omega
        · rw [nI_pred]; exact nI_nlt (by omega) (by omega)
      have eI : ((((25 : Int32) * ((nI p' - 1 - nI (lf i)) + 1)) + (nI r' - 1)) - nI (lf' j)) + 1 = nI (25 * (p' - lf i) + (r' - lf' j)) := by
        rw [i_a, i_b, pk_sub hp1, pk_sub hr1, show (25 : Int32) = nI 25 from rfl, pk_mul, nI_add]
      have eV : ((((nI p' - 1 - nI (lf i)) + 1) + (nI r' - 1)) - nI (lf' j)) + 1 = nI ((p' - lf i) + (r' - lf' j)) := by
        rw [i_a, i_b, pk_sub hp1, pk_sub hr1, nI_add]
      have hIb : 25 * (p' - lf i) + (r' - lf' j) < 625 := by
        have : p' - lf i ≤ 24 := by omega
        have : r' - lf' j ≤ 24 := by omega
        omega
      refine bl_X6_compare_38 hG _ _ _ _ _ _ _ _ T ⟨fun z => absurd z nlt, fun _ => ?_⟩
      rw [eI, eV, nI_clamp (by omega), i_c]
      have iI : vp_in (nI (25 * (p' - lf i) + (r' - lf' j))) 625 := vp_in_nI hIb (by decide)
      -- other cells stay
      have cell : ∀ p r, lf i ≤ p → p ≤ i + 1 → lf' j ≤ r → r ≤ j + 1 → ¬ (p = p' ∧ r = r') → 25 * (p - lf i) + (r - lf' j) ≠ 25 * (p' - lf i) + (r' - lf' j) := fun p r h1 h2 h3 h4 hne e => by
        have : r - lf' j ≤ 24 := by omega
        have : r' - lf' j ≤ 24 := by omega
        have e1 : p - lf i = p' - lf i := by omega
        exact hne ⟨by omega, by omega⟩
      -- a cell of the rows is put down
      have put : ∀ (T1 : ab_S) (v : Nat), T1 = ab_su T 40 0 (25 * (p' - lf i) + (r' - lf' j)) (nI v) → Dm n pp q (fun a => lb (o a)) n' pp' q' (fun a => lb' (o' a)) (lf i) p' (lf' j) r' v → (∀ p r, p + 1 = p' → r + 1 = r' → lf i ≤ p → lf' j ≤ r → lf p = lf i → lf' r = lf' j → False) → G 38 [some (.inr (21, 0)), some (.inl (nI u)), some (.inl (nI u')), some (.inl (nI i)), some (.inl (nI j)), some (.inl (nI (lf i))), some (.inl (nI (lf' j))), some (.inl (nI p' - 1)), some (.inl (nI (r' + 1) - 1)), none, none, none] [] T1 0 := fun T1 v e1 hv hno => by
        refine ih (r' + 1) (by omega) (by omega) T1 (fun a b z => by rw [e1, su_o (by omega)]; exact fT a b z) (fun p r h1 h2 h3 h4 => ?_) (fun r h3 h4 => ?_) (fun p r h1 h2 h3 h4 x1 x2 => ?_) (fun p r h1 h2 h3 h4 x1 x2 => ?_) (fun p r h1 h2 z => by rw [e1, su_o (by omega)]; exact t3 p r h1 h2 z)
        · obtain ⟨d, y1, y2⟩ := f1 p r h1 h2 h3 h4
          exact ⟨d, by rw [e1, su_j (cell p r h1 (by omega) h3 h4 (by omega))]; exact y1, y2⟩
        · by_cases w : r = r'
          · subst w; exact ⟨v, by rw [e1, su_at], hv⟩
          · obtain ⟨d, y1, y2⟩ := f2 r h3 (by omega)
            exact ⟨d, by rw [e1, su_j (cell p' r hp1 hp2 h3 (by omega) (by omega))]; exact y1, y2⟩
        · obtain ⟨d, y1, y2⟩ := t1 p r h1 h2 h3 h4 x1 x2
          exact ⟨d, by rw [e1, su_o (by omega)]; exact y1, y2⟩
        · by_cases w : r + 1 = r'
          · exact absurd x2 (fun _ => hno p r h1 w h2 h3 x1 x2)
          · obtain ⟨d, y1, y2⟩ := t2 p r h1 h2 h3 (by omega) x1 x2
            exact ⟨d, by rw [e1, su_o (by omega)]; exact y1, y2⟩
      by_cases hpx : p' = lf i
      · -- nothing of the first
        refine ⟨fun _ => ⟨iI, fun T1 e1 => put T1 _ e1 (Dm.base (Or.inl (by omega))) (fun p r h1 h2 h3 => by omega)⟩, fun z => absurd (sub1_lt (by omega) (by omega)) z⟩
      obtain ⟨p, ep⟩ : ∃ p, p' = p + 1 := ⟨p' - 1, by omega⟩
      subst ep
      rw [nI_pred] at *
      refine ⟨fun z => absurd z (nI_nlt (by omega) (by omega)), fun _ => ?_⟩
      by_cases hry : r' = lf' j
      · -- nothing of the second
        refine ⟨fun z => ?_, fun _ => ⟨iI, fun T1 e1 => put T1 _ e1 (Dm.base (Or.inr (by omega))) (fun p r h1 h2 h3 h4 => by omega)⟩⟩
        exfalso
        rw [hry] at z
        have := sub1_lt (Nat.le_refl (lf' j)) (show lf' j < 2 ^ 31 by omega)
        rw [Int32.lt_iff_toInt_lt] at this
        rw [Int32.le_iff_toInt_le] at z
        omega
      obtain ⟨r, er⟩ : ∃ r, r' = r + 1 := ⟨r' - 1, by omega⟩
      subst er
      rw [nI_pred] at *
      refine ⟨fun _ => ?_, fun z => absurd (nI_le (by omega) (by omega)) z⟩
      obtain ⟨d1, y1, D1⟩ := f1 p (r + 1) (by omega) (by omega) (by omega) (by omega)
      obtain ⟨d2, y2, D2⟩ := f2 r (by omega) (by omega)
      have b1 := Ds.le D1
      have b2 := Ds.le D2
      have i1 : nI (25 * (p + 1 - lf i) + (r + 1 - lf' j)) - 25 = nI (25 * (p - lf i) + (r + 1 - lf' j)) := by
        rw [show (25 : Int32) = nI 25 from rfl, pk_sub (by omega), show 25 * (p + 1 - lf i) + (r + 1 - lf' j) - 25 = 25 * (p - lf i) + (r + 1 - lf' j) by omega]
      have i2 : nI (25 * (p + 1 - lf i) + (r + 1 - lf' j)) - 1 = nI (25 * (p + 1 - lf i) + (r - lf' j)) := by
        rw [show (1 : Int32) = nI 1 from rfl, pk_sub (by omega), show 25 * (p + 1 - lf i) + (r + 1 - lf' j) - 1 = 25 * (p + 1 - lf i) + (r - lf' j) by omega]
      have i3 : nI (25 * (p + 1 - lf i) + (r + 1 - lf' j)) - 26 = nI (25 * (p - lf i) + (r - lf' j)) := by
        rw [show (26 : Int32) = nI 26 from rfl, pk_sub (by omega), show 25 * (p + 1 - lf i) + (r + 1 - lf' j) - 26 = 25 * (p - lf i) + (r - lf' j) by omega]
      rw [i1, i2, nI_clamp (by omega), nI_clamp (by omega), y1, y2]
      refine ⟨vp_in_nI (by omega) (by decide), vp_in_nI (by omega) (by decide), sp_m_least (by omega) (by omega) ?_⟩
      refine bl_X6_compare_126 hG _ _ _ _ _ _ _ _ _ _ T ?_
      have pn : p < n := by omega
      have rn : r < n' := by omega
      have a37 : T 37 0 p = nI (o (q p)) := by rw [fT 37 0 (by omega)]; exact (pA p pn).1
      have b37 : T 37 0 (24 + r) = nI (o' (q' r)) := by rw [fT 37 0 (by omega)]; exact (pB r rn).1
      have a38 : T 38 0 p = nI (lf p) := by rw [fT 38 0 (by omega)]; exact (pA p pn).2
      have b38 : T 38 0 (24 + r) = nI (lf' r) := by rw [fT 38 0 (by omega)]; exact (pB r rn).2
      have lp := (oA.2.2.2 p pn).1
      have lr := (oB.2.2.2 r rn).1
      have lpx := oA.le hL hA (show lf i ≤ p by omega) (by omega) hi
      have lry := oB.le hL' hB (show lf' j ≤ r by omega) (by omega) hj
      have oq := hS.2.2.2.1 (q p) (oA.1 p pn)
      have oq' := hS'.2.2.2.1 (q' r) (oB.1 r rn)
      have t23 : T 23 0 (24 * u + o (q p)) = lb (o (q p)) := by rw [fT 23 0 (by omega)]; exact (hT.1 _ (oA.1 p pn)).2
      have t23' : T 23 0 (24 * u' + o' (q' r)) = lb' (o' (q' r)) := by rw [fT 23 0 (by omega)]; exact (hT'.1 _ (oB.1 r rn)).2
      have ib : ((25 : Int32) * (nI (lf p) - nI (lf i)) + nI (lf' r)) - nI (lf' j) = nI (25 * (lf p - lf i) + (lf' r - lf' j)) := by
        rw [pk_sub lpx, show (25 : Int32) = nI 25 from rfl, pk_mul, nI_add, pk_sub (by omega), show 25 * (lf p - lf i) + lf' r - lf' j = 25 * (lf p - lf i) + (lf' r - lf' j) by omega]
      have hib : 25 * (lf p - lf i) + (lf' r - lf' j) < 625 := by omega
      rw [c24, nI_clamp (by omega), nI_clamp (by omega), a37, b37, a38, b38, ib, mi, mi, mi, nI_clamp (by omega), nI_clamp (by omega), nI_clamp (by omega), nI_clamp (by omega), t23, t23', i3, nI_clamp (by omega), nI_1]
      have notspan : ¬ (lf p = lf i ∧ lf' r = lf' j) → vp_in (nI p) 48 ∧ vp_in (nI (24 + r)) 48 ∧ vp_in (nI (25 * (lf p - lf i) + (lf' r - lf' j))) 625 ∧ vp_in (nI (24 * p + r)) 576 ∧ Sp_X6_least [.inl (nI (min d1 d2 + 1)), .inl (T 40 0 (25 * (lf p - lf i) + (lf' r - lf' j)) + T 39 0 (24 * p + r))] T (ab_back Q G 297 [some (.inr (21, 0)), some (.inl (nI u)), some (.inl (nI u')), some (.inl (nI i)), some (.inl (nI j)), some (.inl (nI (lf i))), some (.inl (nI (lf' j))), some (.inl (nI p)), some (.inl (nI r)), some (.inl (nI (25 * (p + 1 - lf i) + (r + 1 - lf' j)))), some (.inl (nI (min d1 d2 + 1))), some (.inl (nI (25 * (lf p - lf i) + (lf' r - lf' j))))] [] 0) := fun hns => by
        refine ⟨vp_in_nI (by omega) (by decide), vp_in_nI (by omega) (by decide), vp_in_nI hib (by decide), vp_in_nI (by omega) (by decide), ?_⟩
        obtain ⟨d4, y4, D4⟩ := f1 (lf p) (lf' r) lpx (by omega) lry (by omega)
        obtain ⟨d3, y3, D3⟩ := hP p r (by omega) (by omega) (by omega) (by omega) hns
        have y3' : T 39 0 (24 * p + r) = nI d3 := by rw [t3 p r (by omega) (by omega) (fun z => hns ⟨z.2.2.2.2.1, z.2.2.2.2.2⟩)]; exact y3
        have b3 := Ds.le D3
        have b4 := Ds.le D4
        rw [y4, y3', nI_add]
        refine sp_m_least (by omega) (by omega) ?_
        refine bl_X6_compare_297 hG _ _ _ _ _ _ _ _ _ _ _ _ T ⟨iI, fun T1 e1 => ?_⟩
        rw [nI_clamp (by omega)] at e1
        rw [nI_1]
        exact put T1 _ e1 (Dm.split hL hL' hA hB oA oB pn rn lpx lry D1 D2 D3 D4) (fun p0 r0 h1 h2 _ _ x1 x2 => hns ⟨by rw [← show p0 = p by omega]; exact x1, by rw [← show r0 = r by omega]; exact x2⟩)
      refine ⟨vp_in_nI (by omega) (by decide), fun ea => ⟨vp_in_nI (by omega) (by decide), fun eb => ?_, fun eb => ?_⟩, fun ea => ?_⟩
      · have ea' := (nI_eq (by omega) (by omega)).mp ea
        have eb' := (nI_eq (by omega) (by omega)).mp eb
        obtain ⟨d3, y3, D3⟩ := f1 p r (by omega) (by omega) (by omega) (by omega)
        have b3 := Ds.le D3
        rw [y3]
        have fin : ∀ (ch : Nat) (x11 : Int32), ch = chg (fun a => lb (o a)) (fun a => lb' (o' a)) (q p) (q' r) → Sp_X6_least [.inl (nI (min d1 d2 + 1)), .inl (nI (d3 + ch))] T (ab_back Q G 222 [some (.inr (21, 0)), some (.inl (nI u)), some (.inl (nI u')), some (.inl (nI i)), some (.inl (nI j)), some (.inl (nI (lf i))), some (.inl (nI (lf' j))), some (.inl (nI p)), some (.inl (nI r)), some (.inl (nI (25 * (p + 1 - lf i) + (r + 1 - lf' j)))), some (.inl (nI (min d1 d2 + 1))), some (.inl x11)] [] 0) := fun ch x11 hch => by
          have c1 : ch ≤ 1 := by
            rw [hch]; unfold chg
            by_cases w : lb (o (q p)) = lb' (o' (q' r))
            · rw [if_pos w]; decide
            · rw [if_neg w]; decide
          refine sp_m_least (by omega) (by omega) ?_
          refine bl_X6_compare_222 hG _ _ _ _ _ _ _ _ _ _ _ _ T ?_
          rw [mi, nI_clamp (by omega), nI_clamp (by omega), nI_1]
          refine ⟨vp_in_nI (by omega) (by decide), fun T1 e1 => ⟨iI, fun T2 e2 => ?_⟩⟩
          have DD : Dm n pp q (fun a => lb (o a)) n' pp' q' (fun a => lb' (o' a)) (lf i) (p + 1) (lf' j) (r + 1) (min (min d1 d2 + 1) (d3 + ch)) := by
            rw [hch, ← ea', ← eb']
            rw [← ea', ← eb'] at D1 D2 D3
            exact Dm.span hL hL' hA hB oA oB pn rn D1 D2 D3
          have tcell : ∀ p0 r0, r0 < 24 → ¬ (p0 = p ∧ r0 = r) → 24 * p0 + r0 ≠ 24 * p + r := fun p0 r0 h hne e => hne ⟨by omega, by omega⟩
          rw [← nI_pred (r + 1)]
          refine ih (r + 1 + 1) (by omega) (by omega) T2 (fun a b z => by rw [e2, su_o (by omega), e1, su_o (by omega)]; exact fT a b z) (fun p0 r0 h1 h2 h3 h4 => ?_) (fun r0 h3 h4 => ?_) (fun p0 r0 h1 h2 h3 h4 x1 x2 => ?_) (fun p0 r0 h1 h2 h3 h4 x1 x2 => ?_) (fun p0 r0 h1 h2 z => ?_)
          · obtain ⟨d, w1, w2⟩ := f1 p0 r0 h1 h2 h3 h4
            exact ⟨d, by rw [e2, su_j (cell p0 r0 h1 (by omega) h3 h4 (by omega)), e1, su_o (by omega)]; exact w1, w2⟩
          · by_cases w : r0 = r + 1
            · subst w; exact ⟨_, by rw [e2, su_at], DD⟩
            · obtain ⟨d, w1, w2⟩ := f2 r0 h3 (by omega)
              exact ⟨d, by rw [e2, su_j (cell (p + 1) r0 hp1 hp2 h3 (by omega) (by omega)), e1, su_o (by omega)]; exact w1, w2⟩
          · obtain ⟨d, w1, w2⟩ := t1 p0 r0 h1 h2 h3 h4 x1 x2
            exact ⟨d, by rw [e2, su_o (by omega), e1, su_j (tcell p0 r0 (by omega) (by omega))]; exact w1, w2⟩
          · have ep : p0 = p := by omega
            subst ep
            by_cases w : r0 = r
            · subst w
              refine ⟨_, by rw [e2, su_o (by omega), e1, su_at], ?_⟩
              rw [ea', eb']; exact DD
            · obtain ⟨d, w1, w2⟩ := t2 p0 r0 h1 h2 h3 (by omega) x1 x2
              exact ⟨d, by rw [e2, su_o (by omega), e1, su_j (tcell p0 r0 (by omega) (by omega))]; exact w1, w2⟩
          · have hne : ¬ (p0 = p ∧ r0 = r) := fun w => z ⟨by omega, by omega, by omega, by omega, by rw [w.1]; exact ea', by rw [w.2]; exact eb'⟩
            rw [e2, su_o (by omega), e1, su_j (tcell p0 r0 h2 hne)]; exact t3 p0 r0 h1 h2 z
        refine ⟨vp_in_nI (by omega) (by decide), vp_in_nI (by omega) (by decide), vp_in_nI (by omega) (by decide), vp_in_nI (by omega) (by decide), fun el => ⟨vp_in_nI (by omega) (by decide), ?_⟩, fun el => ⟨vp_in_nI (by omega) (by decide), ?_⟩⟩
        · rw [Int32.add_zero]
          exact fin 0 0 (by unfold chg; rw [if_pos el])
        · rw [nI_1]
          exact fin 1 1 (by unfold chg; rw [if_neg el])
      · exact notspan (fun z => eb (by rw [z.2]))
      · exact notspan (fun z => ea (by rw [z.1]))
  have outer : ∀ k p', p' + k = i + 2 → lf i ≤ p' → ∀ T : ab_S, OffF S T → (∀ p r, lf i ≤ p → p < p' → lf' j ≤ r → r ≤ j + 1 → FV n pp q (fun a => lb (o a)) n' pp' q' (fun a => lb' (o' a)) (lf i) (lf' j) T p r) → (∀ p r, lf i ≤ p → p + 1 < p' → lf' j ≤ r → r ≤ j → lf p = lf i → lf' r = lf' j → TV n pp q lf (fun a => lb (o a)) n' pp' q' lf' (fun a => lb' (o' a)) T p r) → (∀ p r, p < 24 → r < 24 → ¬ (lf i ≤ p ∧ p ≤ i ∧ lf' j ≤ r ∧ r ≤ j ∧ lf p = lf i ∧ lf' r = lf' j) → T 39 0 (24 * p + r) = S 39 0 (24 * p + r)) → G 26 [some (.inr (21, 0)), some (.inl (nI u)), some (.inl (nI u')), some (.inl (nI i)), some (.inl (nI j)), some (.inl (nI (lf i))), some (.inl (nI (lf' j))), some (.inl (nI p' - 1)), none, none, none, none] [] T 0 := by
    intro k
    induction k with
    | zero =>
      intro p' hp hp1 T fT f1 t1 t3
      have ep : p' = (i + 1) + 1 := by omega
      subst ep
      rw [nI_pred]
      exact bl_X6_compare_26 hG _ _ _ _ _ _ _ T ⟨fun _ => hQ T fT (fun p r h1 h2 h3 h4 x1 x2 => t1 p r h1 (by omega) h3 h4 x1 x2) t3, fun z => absurd (nI_lt (by omega) (by omega)) z⟩
    | succ k ih =>
      intro p' hp hp1 T fT f1 t1 t3
      have nlt : ¬ nI i < nI p' - 1 := by
        rcases p' with _ | p
        · intro z
          rw [Int32.lt_iff_toInt_lt, nI_toInt (by omega), show (nI 0 - 1).toInt = -1 by decide] at z
          omega
        · rw [nI_pred]; exact nI_nlt (by omega) (by omega)
      refine bl_X6_compare_26 hG _ _ _ _ _ _ _ T ⟨fun z => absurd z nlt, fun _ => ?_⟩
      exact inner p' hp1 (by omega) (fun T1 g1 g2 g3 g4 => ih (p' + 1) (by omega) (by omega) T1 g1 (fun p r h1 h2 h3 h4 => g2 p r h1 (by omega) h3 h4) (fun p r h1 h2 h3 h4 x1 x2 => g3 p r h1 (by omega) h3 h4 x1 x2) g4) (j + 2 - lf' j) (lf' j) (by omega) (Nat.le_refl _) T fT f1 (fun r h1 h2 => by omega) t1 (fun p r h1 h2 h3 h4 => by omega) t3
  exact outer (i + 2 - lf i) (lf i) (by omega) (Nat.le_refl _) S (fun _ _ _ => rfl) (fun p r h1 h2 => by omega) (fun p r h1 h2 => by omega) (fun _ _ _ _ _ => rfl)
