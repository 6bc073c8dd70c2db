/-! The order of the children of one node in the merged tree. -/
def insC (c : Nat → Nat) (b v : Nat) : Nat → Nat := fun k => if k < b then c k else if k = b then v else c (k - 1)
theorem insC_lo {c : Nat → Nat} {b v k : Nat} (h : k < b) : insC c b v k = c k := if_pos h
theorem insC_at {c : Nat → Nat} {b v : Nat} : insC c b v b = v := by unfold insC; rw [if_neg (by omega), if_pos rfl]
theorem insC_hi {c : Nat → Nat} {b v k : Nat} (h : b < k) : insC c b v k = c (k - 1) := by unfold insC; rw [if_neg (by omega), if_neg (by omega)]
theorem insC_mem {c : Nat → Nat} {b v m w : Nat} (hb : b ≤ m) : (∃ k, k < m + 1 ∧ insC c b v k = w) ↔ w = v ∨ ∃ k, k < m ∧ c k = w := by
  constructor
  · rintro ⟨k, hk, e⟩
    rcases Nat.lt_trichotomy k b with q | q | q
    · rw [insC_lo q] at e; exact Or.inr ⟨k, by omega, e⟩
    · subst q; rw [insC_at] at e; exact Or.inl e.symm
    · rw [insC_hi q] at e; exact Or.inr ⟨k - 1, by omega, e⟩
  · rintro (e | ⟨k, hk, e⟩)
    · exact ⟨b, by omega, by rw [insC_at, e]⟩
    · rcases Nat.lt_or_ge k b with q | q
      · exact ⟨k, by omega, by rw [insC_lo q, e]⟩
      · exact ⟨k + 1, by omega, by rw [insC_hi (by omega), Nat.add_sub_cancel, e]⟩
theorem insC_inj {c : Nat → Nat} {b v m : Nat} (hb : b ≤ m) (hi : ∀ k k', k < m → k' < m → c k = c k' → k = k') (hn : ∀ k, k < m → c k ≠ v) : ∀ k k', k < m + 1 → k' < m + 1 → insC c b v k = insC c b v k' → k = k' := by
  intro k k' hk hk' e
  rcases Nat.lt_trichotomy k b with q | q | q
  · rw [insC_lo q] at e
    rcases Nat.lt_trichotomy k' b with q' | q' | q'
    · rw [insC_lo q'] at e; exact hi k k' (by omega) (by omega) e
    · subst q'; rw [insC_at] at e; exact absurd e (hn k (by omega))
    · rw [insC_hi q'] at e; have := hi k (k' - 1) (by omega) (by omega) e; omega
  · subst q
    rw [insC_at] at e
    rcases Nat.lt_trichotomy k' k with q' | q' | q'
    · rw [insC_lo q'] at e; exact absurd e.symm (hn k' (by omega))
    · exact q'.symm
    · rw [insC_hi q'] at e; exact absurd e.symm (hn (k' - 1) (by omega))
  · rw [insC_hi q] at e
    rcases Nat.lt_trichotomy k' b with q' | q' | q'
    · rw [insC_lo q'] at e; have := hi (k - 1) k' (by omega) (by omega) e; omega
    · subst q'; rw [insC_at] at e; exact absurd e (hn (k - 1) (by omega))
    · rw [insC_hi q'] at e; have := hi (k - 1) (k' - 1) (by omega) (by omega) e; omega
def idx (c : Nat → Nat) (v : Nat) : Nat → Nat
  | 0 => 0
  | m + 1 => if idx c v m < m then idx c v m else if c m = v then m else m + 1
theorem idx_ok {c : Nat → Nat} {v : Nat} : ∀ m, (∃ k, k < m ∧ c k = v) → idx c v m < m ∧ c (idx c v m) = v
  | 0, h => by obtain ⟨k, hk, _⟩ := h; omega
  | m + 1, h => by
    have ih := idx_ok (c := c) (v := v) m
    show (if idx c v m < m then idx c v m else if c m = v then m else m + 1) < m + 1 ∧ c (if idx c v m < m then idx c v m else if c m = v then m else m + 1) = v
    by_cases q : ∃ k, k < m ∧ c k = v
    · have := ih q
      rw [if_pos this.1]; exact ⟨by omega, this.2⟩
    · obtain ⟨k, hk, e⟩ := h
      have ek : k = m := by
        rcases Nat.lt_or_ge k m with w | w
        · exact absurd ⟨k, w, e⟩ q
        · omega
      subst ek
      by_cases w : idx c v k < k
      · rw [if_pos w]
        refine ⟨by omega, ?_⟩
        exfalso
        -- an index below k is only given for a member
        have : ∀ m, idx c v m < m → c (idx c v m) = v := by
          intro m
          induction m with
          | zero => intro h; omega
          | succ m ihm =>
            intro h
            by_cases w1 : idx c v m < m
            · have e1 : idx c v (m + 1) = idx c v m := if_pos w1
              rw [e1]; exact ihm w1
            · by_cases w2 : c m = v
              · have e1 : idx c v (m + 1) = m := by show (if idx c v m < m then idx c v m else if c m = v then m else m + 1) = m; rw [if_neg w1, if_pos w2]
                rw [e1]; exact w2
              · have e1 : idx c v (m + 1) = m + 1 := by show (if idx c v m < m then idx c v m else if c m = v then m else m + 1) = m + 1; rw [if_neg w1, if_neg w2]
                omega
        exact q ⟨idx c v k, w, this k w⟩
      · rw [if_neg w, if_pos e]; exact ⟨by omega, e⟩
def Oq (o : Nat → Nat) (po rp : Nat → Int32) (p : Nat) : Nat → Nat × (Nat → Nat)
  | 0 => (0, fun _ => 0)
  | i + 1 => if po (o i) = nI p ∧ rp (o i) = nI p then ((Oq o po rp p i).1 + 1, insC (Oq o po rp p i).2 (Oq o po rp p i).1 (o i)) else Oq o po rp p i
def Tq (q0 : Nat × (Nat → Nat)) (o : Nat → Nat) (po pt rp : Nat → Int32) (p : Nat) : Nat → Nat × (Nat → Nat) × Nat
  | 0 => (q0.1, q0.2, 0)
  | i + 1 => if pt (o i) = nI p ∧ rp (o i) = nI p then (if po (o i) = nI p ∧ rp (o i) = nI p then ((Tq q0 o po pt rp p i).1, (Tq q0 o po pt rp p i).2.1, idx (Tq q0 o po pt rp p i).2.1 (o i) (Tq q0 o po pt rp p i).1 + 1) else ((Tq q0 o po pt rp p i).1 + 1, insC (Tq q0 o po pt rp p i).2.1 (Tq q0 o po pt rp p i).2.2 (o i), (Tq q0 o po pt rp p i).2.2 + 1)) else Tq q0 o po pt rp p i
theorem Oq_y {o : Nat → Nat} {po rp : Nat → Int32} {p i : Nat} (h : po (o i) = nI p ∧ rp (o i) = nI p) : Oq o po rp p (i + 1) = ((Oq o po rp p i).1 + 1, insC (Oq o po rp p i).2 (Oq o po rp p i).1 (o i)) := if_pos h
theorem Oq_n {o : Nat → Nat} {po rp : Nat → Int32} {p i : Nat} (h : ¬ (po (o i) = nI p ∧ rp (o i) = nI p)) : Oq o po rp p (i + 1) = Oq o po rp p i := if_neg h
theorem Tq_o {q0 : Nat × (Nat → Nat)} {o : Nat → Nat} {po pt rp : Nat → Int32} {p i : Nat} (h : pt (o i) = nI p ∧ rp (o i) = nI p) (h2 : po (o i) = nI p) : Tq q0 o po pt rp p (i + 1) = ((Tq q0 o po pt rp p i).1, (Tq q0 o po pt rp p i).2.1, idx (Tq q0 o po pt rp p i).2.1 (o i) (Tq q0 o po pt rp p i).1 + 1) := (if_pos h).trans (if_pos ⟨h2, h.2⟩)
theorem Tq_y {q0 : Nat × (Nat → Nat)} {o : Nat → Nat} {po pt rp : Nat → Int32} {p i : Nat} (h : pt (o i) = nI p ∧ rp (o i) = nI p) (h2 : ¬ po (o i) = nI p) : Tq q0 o po pt rp p (i + 1) = ((Tq q0 o po pt rp p i).1 + 1, insC (Tq q0 o po pt rp p i).2.1 (Tq q0 o po pt rp p i).2.2 (o i), (Tq q0 o po pt rp p i).2.2 + 1) := (if_pos h).trans (if_neg (fun z => h2 z.1))
theorem Tq_n {q0 : Nat × (Nat → Nat)} {o : Nat → Nat} {po pt rp : Nat → Int32} {p i : Nat} (h : ¬ (pt (o i) = nI p ∧ rp (o i) = nI p)) : Tq q0 o po pt rp p (i + 1) = Tq q0 o po pt rp p i := if_neg h
/-- the data of a merge: rows of ours and theirs, all parents -/
def MD (nO nT : Nat) (oO oT : Nat → Nat) (po pt : Nat → Int32) : Prop := (∀ i, i < nO → oO i < 24) ∧ (∀ i j, i < nO → j < nO → oO i = oO j → i = j) ∧ (∀ i, i < nT → oT i < 24) ∧ (∀ i j, i < nT → j < nT → oT i = oT j → i = j) ∧ (∀ v, v < 24 → po v ≠ -2 → ∃ i, i < nO ∧ oO i = v) ∧ ∀ v, v < 24 → pt v ≠ -2 → ∃ i, i < nT ∧ oT i = v
theorem Oq_ok {nO nT : Nat} {oO oT : Nat → Nat} {po pt rp : Nat → Int32} (hM : MD nO nT oO oT po pt) (p : Nat) : ∀ i, i ≤ nO →
    (∀ k, k < (Oq oO po rp p i).1 → ∃ j, j < i ∧ (Oq oO po rp p i).2 k = oO j ∧ po (oO j) = nI p ∧ rp (oO j) = nI p) ∧ (∀ k k', k < (Oq oO po rp p i).1 → k' < (Oq oO po rp p i).1 → (Oq oO po rp p i).2 k = (Oq oO po rp p i).2 k' → k = k') ∧ ∀ j, j < i → po (oO j) = nI p ∧ rp (oO j) = nI p → ∃ k, k < (Oq oO po rp p i).1 ∧ (Oq oO po rp p i).2 k = oO j := by
  intro i
  induction i with
  | zero => intro _; exact ⟨fun k hk => absurd hk (Nat.not_lt_zero k), fun k k' hk => absurd hk (Nat.not_lt_zero k), fun j hj => absurd hj (Nat.not_lt_zero j)⟩
  | succ i ih =>
    intro hi
    obtain ⟨a, b, c⟩ := ih (by omega)
    by_cases h : po (oO i) = nI p ∧ rp (oO i) = nI p
    · rw [Oq_y h]
      have new : ∀ k, k < (Oq oO po rp p i).1 → (Oq oO po rp p i).2 k ≠ oO i := fun k hk e => by
        obtain ⟨j, hj, e2, _⟩ := a k hk
        have := hM.2.1 j i (by omega) (by omega) (e2.symm.trans e)
        omega
      refine ⟨fun k hk => ?_, insC_inj (Nat.le_refl _) b new, fun j hj hc => ?_⟩
      · rcases (insC_mem (Nat.le_refl _)).mp ⟨k, hk, rfl⟩ with e | ⟨k', hk', e⟩
        · exact ⟨i, by omega, e, h⟩
        · obtain ⟨j, hj, e2, h2⟩ := a k' hk'
          exact ⟨j, by omega, e.symm.trans e2, h2⟩
      · refine (insC_mem (Nat.le_refl _)).mpr ?_
        by_cases q : j = i
        · subst q; exact Or.inl rfl
        · exact Or.inr (c j (by omega) hc)
    · rw [Oq_n h]
      refine ⟨fun k hk => ?_, b, fun j hj hc => ?_⟩
      · obtain ⟨j, hj, e⟩ := a k hk
        exact ⟨j, by omega, e⟩
      · by_cases q : j = i
        · subst q; exact absurd hc h
        · exact c j (by omega) hc
def TqI (oT : Nat → Nat) (po pt rp : Nat → Int32) (p i : Nat) (q : Nat × (Nat → Nat) × Nat) : Prop := q.2.2 ≤ q.1 ∧ (∀ k, k < q.1 → q.2.1 k < 24 ∧ rp (q.2.1 k) = nI p ∧ (po (q.2.1 k) = nI p ∨ ∃ j, j < i ∧ q.2.1 k = oT j)) ∧ (∀ k k', k < q.1 → k' < q.1 → q.2.1 k = q.2.1 k' → k = k') ∧ (∀ v, v < 24 → po v = nI p → rp v = nI p → ∃ k, k < q.1 ∧ q.2.1 k = v) ∧ ∀ j, j < i → pt (oT j) = nI p ∧ rp (oT j) = nI p → ∃ k, k < q.1 ∧ q.2.1 k = oT j
theorem TqI.fresh {nO nT : Nat} {oO oT : Nat → Nat} {po pt rp : Nat → Int32} {p i : Nat} {q : Nat × (Nat → Nat) × Nat} (hM : MD nO nT oO oT po pt) (h : TqI oT po pt rp p i q) (hi : i < nT) (h2 : ¬ po (oT i) = nI p) : ∀ k, k < q.1 → q.2.1 k ≠ oT i := fun k hk e => by
  rcases (h.2.1 k hk).2.2 with z | ⟨j, hj, ej⟩
  · rw [e] at z; exact h2 z
  · have := hM.2.2.2.1 j i (by omega) hi (ej.symm.trans e)
    omega
theorem Tq_ok {nO nT : Nat} {oO oT : Nat → Nat} {po pt rp : Nat → Int32} (hM : MD nO nT oO oT po pt) {p : Nat} (hp : p < 24) : ∀ i, i ≤ nT → TqI oT po pt rp p i (Tq (Oq oO po rp p nO) oT po pt rp p i) := by
  intro i
  induction i with
  | zero =>
    intro _
    obtain ⟨a, b, c⟩ := Oq_ok (rp := rp) hM p nO (Nat.le_refl _)
    refine ⟨Nat.zero_le _, fun k hk => ?_, b, fun v hv h1 h2 => ?_, fun j hj => absurd hj (Nat.not_lt_zero j)⟩
    · obtain ⟨j, hj, e, h1, h2⟩ := a k hk
      have e' : (Tq (Oq oO po rp p nO) oT po pt rp p 0).2.1 k = oO j := e
      rw [e']
      exact ⟨hM.1 j hj, h2, Or.inl h1⟩
    · obtain ⟨i, hi, e⟩ := hM.2.2.2.2.1 v hv (by rw [h1]; exact nu_ne (by omega) (by decide))
      subst e
      exact c i hi ⟨h1, h2⟩
  | succ i ih =>
    intro hi
    have hI := ih (by omega)
    obtain ⟨a1, a2, a3, a4, a5⟩ := hI
    by_cases h : pt (oT i) = nI p ∧ rp (oT i) = nI p
    · by_cases h2 : po (oT i) = nI p
      · rw [Tq_o h h2]
        obtain ⟨k0, hk0, ek0⟩ := a4 (oT i) (hM.2.2.1 i (by omega)) h2 h.2
        have hx := idx_ok _ ⟨k0, hk0, ek0⟩
        refine ⟨by have := hx.1; show _ + 1 ≤ _; omega, fun k hk => ?_, a3, a4, fun j hj hc => ?_⟩
        · obtain ⟨b1, b2, b3⟩ := a2 k hk
          exact ⟨b1, b2, b3.elim Or.inl (fun ⟨j, hj, ej⟩ => Or.inr ⟨j, by omega, ej⟩)⟩
        · by_cases q : j = i
          · subst q; exact ⟨k0, hk0, ek0⟩
          · exact a5 j (by omega) hc
      · rw [Tq_y h h2]
        have new := TqI.fresh hM (ih (by omega)) (by omega) h2
        refine ⟨by show _ + 1 ≤ _ + 1; omega, fun k hk => ?_, insC_inj a1 a3 new, fun v hv q1 q2 => (insC_mem a1).mpr (Or.inr (a4 v hv q1 q2)), fun j hj hc => (insC_mem a1).mpr ?_⟩
        · rcases (insC_mem a1).mp ⟨k, hk, rfl⟩ with e | ⟨k', hk', e⟩
          · show insC _ _ _ k < 24 ∧ rp (insC _ _ _ k) = nI p ∧ (po (insC _ _ _ k) = nI p ∨ ∃ j, j < i + 1 ∧ insC _ _ _ k = oT j)
            rw [e]; exact ⟨hM.2.2.1 i (by omega), h.2, Or.inr ⟨i, by omega, rfl⟩⟩
          · show insC _ _ _ k < 24 ∧ rp (insC _ _ _ k) = nI p ∧ (po (insC _ _ _ k) = nI p ∨ ∃ j, j < i + 1 ∧ insC _ _ _ k = oT j)
            rw [← e]
            obtain ⟨b1, b2, b3⟩ := a2 k' hk'
            exact ⟨b1, b2, b3.elim Or.inl (fun ⟨j, hj, ej⟩ => Or.inr ⟨j, by omega, ej⟩)⟩
        · by_cases q : j = i
          · subst q; exact Or.inl rfl
          · exact Or.inr (a5 j (by omega) hc)
    · rw [Tq_n h]
      refine ⟨a1, fun k hk => ?_, a3, a4, fun j hj hc => ?_⟩
      · obtain ⟨b1, b2, b3⟩ := a2 k hk
        exact ⟨b1, b2, b3.elim Or.inl (fun ⟨j, hj, ej⟩ => Or.inr ⟨j, by omega, ej⟩)⟩
      · by_cases q : j = i
        · subst q; exact absurd hc h
        · exact a5 j (by omega) hc
/-! The row of the merged tree as it grows. -/
def AI (rp : Nat → Int32) (p i m : Nat) (c : Nat → Nat) (n : Nat) (o pp : Nat → Nat) : Prop := Sh n o pp ∧ (∀ a, 0 < a → a < n → rp (o a) = nI (o (pp a))) ∧ i + m < n ∧ (∀ k, k < m → o (i + 1 + k) = c k ∧ pp (i + 1 + k) = i) ∧ (∀ a, i + m < a → a < n → pp a < i) ∧ o i = p
/-- the nodes before spot i have all their children, in their order -/
def PK (M : Nat → Nat) (C : Nat → Nat → Nat) (i n : Nat) (o pp : Nat → Nat) : Prop := ∀ j, j < i → ck pp j n = M (o j) ∧ ∀ a, 0 < a → a < n → pp a = j → o a = C (o j) (ck pp j a)
theorem lt24_new {n : Nat} {o pp : Nat → Nat} {v : Nat} (hS : Sh n o pp) (hv : v < 24) (hnew : ∀ a, a < n → o a ≠ v) : n < 24 := by
  have := fb_holes 24 (n + 1) (fun a => if a < n then o a else v) (fun a ha => by
    by_cases q : a < n
    · simp only [if_pos q]; exact hS.2.2.2.1 a q
    · simp only [if_neg q]; exact hv) (fun a b hab hb => by
    have ha : a < n := by omega
    simp only [if_pos ha]
    by_cases q : b < n
    · simp only [if_pos q]; intro e; have := hS.2.2.2.2.1 a b ha q e; omega
    · simp only [if_neg q]; exact hnew a ha)
  omega
theorem AI.new {rp : Nat → Int32} {p i m n v : Nat} {c o pp : Nat → Nat} (h : AI rp p i m c n o pp) (hp : p < 24) (r0 : rp 0 = -1) (hr : rp v = nI p) (hc : ∀ k, k < m → c k ≠ v) : ∀ a, a < n → o a ≠ v := fun a ha e => by
  obtain ⟨hS, h1, h2, h3, h4, h5⟩ := h
  rcases Nat.eq_zero_or_pos a with q | q
  · subst q
    rw [hS.2.2.1] at e
    subst e
    exact nu_ne (by omega) (by decide) (hr.symm.trans r0)
  · have e1 := h1 a q ha
    have hpa := hS.2.2.2.2.2.1 a q ha
    have o1 := hS.2.2.2.1 (pp a) (by omega)
    rw [e, hr] at e1
    have e2 := (nI_eq (by omega) (by omega)).mp e1
    have e3 := hS.2.2.2.2.1 (pp a) i (by omega) (by omega) (e2.symm.trans h5.symm)
    rcases Nat.lt_or_ge (i + m) a with w | w
    · have := h4 a w ha; omega
    · obtain ⟨k, hk⟩ : ∃ k, a = i + 1 + k := ⟨a - (i + 1), by omega⟩
      subst hk
      exact hc k (by omega) ((h3 k (by omega)).1.symm.trans e)
theorem Lp1 : Lp 1 (fun _ => 0) := ⟨fun i _ h => by omega, fun i j _ _ h => by omega⟩
theorem AI.slv {rp : Nat → Int32} {p i m n b : Nat} {c o pp : Nat → Nat} (h : AI rp p i m c n o pp) (hb : b ≤ m) : Slv n pp i (i + 1 + b) := by
  obtain ⟨hS, h1, h2, h3, h4, h5⟩ := h
  refine ⟨by omega, by omega, fun j j1 j2 => ?_, ?_⟩
  · have := (h3 (j - (i + 1)) (by omega)).2
    rw [show i + 1 + (j - (i + 1)) = j by omega] at this
    omega
  · rcases Nat.lt_or_ge (i + 1 + b) n with q | q
    · right
      rcases Nat.lt_or_ge b m with w | w
      · have := (h3 b w).2; omega
      · have := h4 (i + 1 + b) (by omega) q; omega
    · left; omega
theorem AI.ins {rp : Nat → Int32} {p i m n b v : Nat} {c o pp : Nat → Nat} {M : Nat → Nat} {C : Nat → Nat → Nat} (h : AI rp p i m c n o pp) (hK : PK M C i n o pp) (hb : b ≤ m) (hv : v < 24) (hr : rp v = nI p) (hn : n < 24) (hnew : ∀ a, a < n → o a ≠ v) :
    AI rp p i (m + 1) (insC c b v) (n + 1) (insO o (fun _ => v) (i + 1 + b) 1) (insP pp (fun _ => 0) (i + 1 + b) 1 i) ∧ PK M C i (n + 1) (insO o (fun _ => v) (i + 1 + b) 1) (insP pp (fun _ => 0) (i + 1 + b) 1 i) := by
  have hsl := h.slv hb
  obtain ⟨hS, h1, h2, h3, h4, h5⟩ := h
  have hL := hS.2.2.2.2.2
  have hS' : Sh (n + 1) (insO o (fun _ => v) (i + 1 + b) 1) (insP pp (fun _ => 0) (i + 1 + b) 1 i) := Sh_ins hS Lp1 (by decide) (by omega) hsl (fun _ _ => hv) (fun i j hi hj _ => by omega) (fun a j ha _ => hnew a ha)
  have upi : upP (i + 1 + b) 1 i = i := if_pos (by omega)
  refine ⟨⟨hS', fun a a0 ha => ?_, by omega, fun k hk => ?_, fun a a1 a2 => ?_, ?_⟩, fun j hj => ?_⟩
  · rcases Nat.lt_trichotomy a (i + 1 + b) with q | q | q
    · rw [insO_lo q, insP_lo q]
      have := hL.1 a a0 (by omega)
      rw [insO_lo (by omega)]
      exact h1 a a0 (by omega)
    · subst q
      rw [insO_in (Nat.le_refl _) (by omega), insP_hd, insO_lo (by omega), h5]; exact hr
    · rw [insO_hi (by omega), insP_hi (by decide) (by omega), insO_up]
      exact h1 (a - 1) (by omega) (by omega)
  · rcases Nat.lt_trichotomy k b with q | q | q
    · rw [insO_lo (by omega), insP_lo (by omega), insC_lo q]; exact h3 k (by omega)
    · subst q
      rw [insO_in (Nat.le_refl _) (by omega), insP_hd, insC_at]; exact ⟨rfl, rfl⟩
    · rw [insO_hi (by omega), insP_hi (by decide) (by omega), insC_hi q, show i + 1 + k - 1 = i + 1 + (k - 1) by omega, (h3 (k - 1) (by omega)).1, (h3 (k - 1) (by omega)).2, upi]; exact ⟨rfl, rfl⟩
  · rw [insP_hi (by decide) (by omega)]
    have := h4 (a - 1) (by omega) (by omega)
    unfold upP; rw [if_pos (by omega)]; exact this
  · rw [insO_lo (by omega)]; exact h5
  · obtain ⟨k1, k2⟩ := hK j hj
    have upj : upP (i + 1 + b) 1 j = j := if_pos (by omega)
    refine ⟨?_, fun a a0 ha hpa => ?_⟩
    · have := ck_ins_hi (q := j) hL Lp1 (by decide) hsl.1 hsl.2.1 (by omega) n hsl.2.1 (Nat.le_refl n)
      rw [upj, if_neg (by omega)] at this
      rw [this, insO_lo (by omega)]; exact k1
    · have ane : ¬ (i + 1 + b ≤ a ∧ a < i + 1 + b + 1) := fun z => by
        have : a = i + 1 + b := by omega
        subst this
        rw [insP_hd] at hpa
        omega
      obtain ⟨a', ha', ea, e0⟩ := up_or (sl := i + 1 + b) (len := 1) (n := n) (by omega) ha ane
      have a0' := e0 a0 (by omega)
      subst ea
      have hpa' := hL.1 a' a0' ha'
      rw [insP_up hL (by decide) a0' ha'] at hpa
      have epa : pp a' = j := by
        unfold upP at hpa
        by_cases w : pp a' < i + 1 + b
        · rw [if_pos w] at hpa; exact hpa
        · rw [if_neg w] at hpa; omega
      have ec := ck_ins_up (cp := fun _ => 0) hL Lp1 (by decide) hsl a0' ha'
      rw [epa, upj, if_neg (fun z => by omega)] at ec
      rw [insO_up, ec, insO_lo (by omega)]
      exact k2 a' a0' ha' epa
/-- the node at spot i has all its children now -/
theorem AI.done {rp : Nat → Int32} {p i m n : Nat} {c o pp : Nat → Nat} {M : Nat → Nat} {C : Nat → Nat → Nat} (h : AI rp p i m c n o pp) (hK : PK M C i n o pp) (hM : M p = m) (hC : C p = c) : PK M C (i + 1) n o pp := by
  obtain ⟨hS, h1, h2, h3, h4, h5⟩ := h
  have hL := hS.2.2.2.2.2
  have e0 : ck pp i (i + 1) = 0 := ck_zero (i + 1) (fun j j0 hj => by have := hL.1 j j0 (by omega); omega)
  have ek : ∀ k, k ≤ m → ck pp i (i + 1 + k) = k := by
    intro k
    induction k with
    | zero => intro _; exact e0
    | succ k ih =>
      intro hk
      rw [show i + 1 + (k + 1) = (i + 1 + k) + 1 by omega, ck_yes (by omega) (h3 k (by omega)).2, ih (by omega)]
  intro j hj
  by_cases q : j = i
  · subst q
    rw [h5]
    refine ⟨?_, fun a a0 ha hpa => ?_⟩
    · rw [hM, ck_same (a := j + 1 + m) n (by omega) (fun a a1 a2 => by have := h4 a (by omega) a2; omega), ek m (Nat.le_refl _)]
    · have := hL.1 a a0 ha
      have : a ≤ j + m := by
        rcases Nat.lt_or_ge (j + m) a with w | w
        · have := h4 a w ha; omega
        · exact w
      obtain ⟨k, hk⟩ : ∃ k, a = j + 1 + k := ⟨a - (j + 1), by omega⟩
      subst hk
      rw [hC, ek k (by omega)]
      exact (h3 k (by omega)).1
  · exact hK j (by omega)
