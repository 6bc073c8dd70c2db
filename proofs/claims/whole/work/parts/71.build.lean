/-! The model builds the merged tree. -/
def kc (o pp : Nat → Nat) (p : Nat) : Nat → Nat
  | 0 => 0
  | i + 1 => kc o pp p i + if 0 < i ∧ o (pp i) = p then 1 else 0
theorem kc_y {o pp : Nat → Nat} {p i : Nat} (h : 0 < i ∧ o (pp i) = p) : kc o pp p (i + 1) = kc o pp p i + 1 := by show _ + (if _ then 1 else 0) = _; rw [if_pos h]
theorem kc_n {o pp : Nat → Nat} {p i : Nat} (h : ¬ (0 < i ∧ o (pp i) = p)) : kc o pp p (i + 1) = kc o pp p i := by show _ + (if _ then 1 else 0) = _; rw [if_neg h, Nat.add_zero]
theorem kc_le {o pp : Nat → Nat} {p : Nat} : ∀ i, kc o pp p i ≤ i
  | 0 => Nat.le_refl 0
  | i + 1 => by
    have := kc_le (o := o) (pp := pp) (p := p) i
    by_cases h : 0 < i ∧ o (pp i) = p
    · rw [kc_y h]; omega
    · rw [kc_n h]; omega
theorem kc_mono {o pp : Nat → Nat} {p a : Nat} : ∀ b, a ≤ b → kc o pp p a ≤ kc o pp p b
  | 0, h => by rw [show a = 0 by omega]; exact Nat.le_refl _
  | b + 1, h => by
    rcases Nat.lt_or_ge a (b + 1) with q | q
    · have := kc_mono (o := o) (pp := pp) (p := p) (a := a) b (by omega)
      by_cases h : 0 < b ∧ o (pp b) = p
      · rw [kc_y h]; omega
      · rw [kc_n h]; exact this
    · rw [show a = b + 1 by omega]; exact Nat.le_refl _
theorem kc_in {n : Nat} {o pp : Nat → Nat} {s : Nat} (hS : Sh n o pp) (hs : s < n) : ∀ i, i ≤ n → kc o pp (o s) i = ck pp s i
  | 0, _ => rfl
  | i + 1, h => by
    have ih := kc_in hS hs i (by omega)
    by_cases c : 0 < i ∧ pp i = s
    · rw [kc_y ⟨c.1, by rw [c.2]⟩, ck_yes c.1 c.2, ih]
    · have c' : ¬ (0 < i ∧ o (pp i) = o s) := fun z => c ⟨z.1, hS.2.2.2.2.1 _ _ (by have := hS.2.2.2.2.2.1 i z.1 (by omega); omega) hs z.2⟩
      rw [kc_n c', ck_no c, ih]
theorem kc_out {n : Nat} {o pp : Nat → Nat} {p : Nat} (hS : Sh n o pp) (hp : ∀ s, s < n → o s ≠ p) : ∀ i, i ≤ n → kc o pp p i = 0
  | 0, _ => rfl
  | i + 1, h => by
    have ih := kc_out hS hp i (by omega)
    rw [kc_n (fun z => hp _ (by have := hS.2.2.2.2.2.1 i z.1 (by omega); omega) z.2), ih]
theorem kc_kth {o pp : Nat → Nat} {p k : Nat} : ∀ n, k < kc o pp p n → ∃ a, 0 < a ∧ a < n ∧ o (pp a) = p ∧ kc o pp p a = k
  | 0, h => absurd h (Nat.not_lt_zero k)
  | n + 1, h => by
    by_cases c : 0 < n ∧ o (pp n) = p
    · rw [kc_y c] at h
      by_cases q : kc o pp p n = k
      · exact ⟨n, c.1, by omega, c.2, q⟩
      · obtain ⟨a, a0, ha, h1, h2⟩ := kc_kth (o := o) (pp := pp) (p := p) (k := k) n (by omega)
        exact ⟨a, a0, by omega, h1, h2⟩
    · rw [kc_n c] at h
      obtain ⟨a, a0, ha, h1, h2⟩ := kc_kth (o := o) (pp := pp) (p := p) (k := k) n h
      exact ⟨a, a0, by omega, h1, h2⟩
theorem sp_m_childrenN {Q : ab_Po} {S : ab_S} {u n p : Nat} {o pp : Nat → Nat} {lb : Nat → Int32} (hS : Sh n o pp) (h : TM S u n o pp lb) (hu : u < 14) (hp : p < 24) (hQ : Q (.inl (some (nI (kc o pp p n)))) S) : Sp_X6_children [.inr (21, 0), .inl (nI u), .inl (nI p)] S Q := by
  by_cases c : ∃ s, s < n ∧ o s = p
  · obtain ⟨s, hs, rfl⟩ := c
    refine sp_m_children hS h hu hs ?_
    rw [← kc_in hS hs n (Nat.le_refl n)]; exact hQ
  · have hno : ∀ s, s < n → o s ≠ p := fun s hs e => c ⟨s, hs, e⟩
    refine sp_m_children0 hu ?_
    have e : fb_ct (fun v => ich S u v (nI p)) 24 = 0 := fb_ct_zero.mpr (fun v hv => by
      unfold ich
      rw [decide_eq_false_iff_not]
      rintro ⟨z1, z2⟩
      by_cases w : ∃ i, i < n ∧ o i = v
      · obtain ⟨i, hi, rfl⟩ := w
        rcases Nat.eq_zero_or_pos i with q | q
        · subst q
          rw [hS.2.2.1, show S 24 0 (24 * u + 0) = -1 from h.2.1.1] at z2
          exact nu_ne (by omega) (by decide) z2.symm
        · have hpi := hS.2.2.2.2.2.1 i q hi
          have o1 := hS.2.2.2.1 (pp i) (by omega)
          rw [(h.2.2.1 i q hi).1] at z2
          exact hno (pp i) (by omega) ((nI_eq (by omega) (by omega)).mp z2)
      · exact z1 (h.2.2.2 v hv (fun i hi e => w ⟨i, hi, e⟩)))
    rw [e]
    rw [kc_out hS hno n (Nat.le_refl n)] at hQ
    exact hQ
theorem sp_m_childAtN {Q : ab_Po} {S : ab_S} {u n p a : Nat} {o pp : Nat → Nat} {lb : Nat → Int32} (hS : Sh n o pp) (h : TM S u n o pp lb) (hu : u < 14) (a0 : 0 < a) (ha : a < n) (hp : o (pp a) = p) (hQ : Q (.inl (some (nI (o a)))) S) : Sp_X6_childAt [.inr (21, 0), .inl (nI u), .inl (nI p), .inl (nI (kc o pp p a))] S Q := by
  subst hp
  have hpa := hS.2.2.2.2.2.1 a a0 ha
  rw [kc_in hS (show pp a < n by omega) a (by omega)]
  exact sp_m_childAt hS h hu (by omega) a0 ha rfl hQ
theorem m312 (v : Nat) : (312 : Int32) + nI v = nI (24 * 13 + v) := by rw [show (312 : Int32) = nI 312 from rfl, nI_add]
def Plc (M : Nat → Nat) (C : Nat → Nat → Nat) (rl : Nat → Int32) (p m : Nat) (c : Nat → Nat) (w : Nat) : Prop := (∃ k, k < m ∧ c k = w) ∨ ∃ p', p' < p ∧ rl p' ≠ -2 ∧ ∃ k, k < M p' ∧ C p' k = w
def MI (S : ab_S) (M : Nat → Nat) (C : Nat → Nat → Nat) (rl rp : Nat → Int32) (p m : Nat) (c : Nat → Nat) : Prop := (S 22 0 (24 * 13) = 1 ∧ S 24 0 (24 * 13) = -1 ∧ S 25 0 (24 * 13) = 0) ∧ (∀ w, 0 < w → w < 24 → (Plc M C rl p m c w → S 22 0 (24 * 13 + w) = 1 ∧ S 24 0 (24 * 13 + w) = rp w) ∧ (¬ Plc M C rl p m c w → S 22 0 (24 * 13 + w) = 0)) ∧ (∀ p' k, p' < p → rl p' ≠ -2 → k < M p' → S 25 0 (24 * 13 + C p' k) = nI k) ∧ ∀ k, k < m → S 25 0 (24 * 13 + c k) = nI k
def OffB (S S' : ab_S) : Prop := (∀ a b, ((a ≠ 22 ∧ a ≠ 24 ∧ a ≠ 25) ∨ b ≠ 0) → S' a b = S a b) ∧ ∀ a j, (j < 24 * 13 ∨ 24 * 13 + 24 ≤ j) → S' a 0 j = S a 0 j
theorem OffB.tr {S S1 S2 : ab_S} (h : OffB S S1) (h2 : OffB S1 S2) : OffB S S2 := ⟨fun a b z => (h2.1 a b z).trans (h.1 a b z), fun a j z => (h2.2 a j z).trans (h.2 a j z)⟩
theorem OffB.rf {S : ab_S} : OffB S S := ⟨fun _ _ _ => rfl, fun _ _ _ => rfl⟩
theorem MTd.offB {S S' : ab_S} {u made : Nat} {d : sD} (hk : Okd made d) (h : MTd S u d) (hu : u < 13) (ho : OffB S S') : MTd S' u d := by
  have o24 := hk.1.2.2.2.1
  refine ⟨fun i hi => ?_, ?_, fun i i0 hi => ?_, fun v hv hno => ?_⟩
  · have := o24 i hi
    rw [ho.2 22 _ (by omega), ho.2 23 _ (by omega)]; exact h.1 i hi
  · rw [ho.2 24 _ (by omega), ho.2 25 _ (by omega)]; exact h.2.1
  · have := o24 i hi
    rw [ho.2 24 _ (by omega), ho.2 25 _ (by omega)]; exact h.2.2.1 i i0 hi
  · rw [ho.2 22 _ (by omega)]; exact h.2.2.2 v hv hno
/-- one more child is hung -/
theorem MI.hang {S S' : ab_S} {M : Nat → Nat} {C : Nat → Nat → Nat} {rl rp : Nat → Int32} {p m b v : Nat} {c : Nat → Nat} (h : MI S M C rl rp p m c) (hp : p < 24) (hv : v < 24) (hr : rp v = nI p) (r0 : rp 0 = -1) (hb : b ≤ m) (hm : m ≤ 24) (hnew : ∀ k, k < m → c k ≠ v) (hinj : ∀ k k', k < m → k' < m → c k = c k' → k = k') (hc : ∀ k, k < m → c k < 24 ∧ rp (c k) = nI p) (hC : ∀ p' k, p' < p → rl p' ≠ -2 → k < M p' → C p' k < 24 ∧ rp (C p' k) = nI p')
    (a1 : ∀ j, j ≠ 24 * 13 + v → S' 22 0 j = S 22 0 j ∧ S' 24 0 j = S 24 0 j) (a2 : S' 22 0 (24 * 13 + v) = 1) (a3 : S' 24 0 (24 * 13 + v) = nI p) (a4 : S' 25 0 (24 * 13 + v) = nI b) (a5 : ∀ w, w < 24 → w ≠ v → S' 25 0 (24 * 13 + w) = if ich S 13 w (nI p) = true ∧ ¬ S 25 0 (24 * 13 + w) < nI b then S 25 0 (24 * 13 + w) + 1 else S 25 0 (24 * 13 + w)) : MI S' M C rl rp p (m + 1) (insC c b v) := by
  obtain ⟨⟨z1, z2, z3⟩, h2, h3, h4⟩ := h
  have ne0 : ∀ w, rp w = nI p → w ≠ 0 := fun w hw e => by
    subst e
    exact nu_ne (by omega) (by decide) (hw.symm.trans r0)
  have v0 := ne0 v hr
  have diff : ∀ p' w, p' < p → rp w = nI p' → ¬ rp w = nI p := fun p' w hp' e e2 => by
    have := (nI_eq (a := p') (b := p) (by omega) (by omega)).mp (e.symm.trans e2)
    omega
  have ichy : ∀ k, k < m → ich S 13 (c k) (nI p) = true := fun k hk => by
    have x := ((h2 (c k) (by have := ne0 _ (hc k hk).2; omega) (hc k hk).1).1 (Or.inl ⟨k, hk, rfl⟩))
    unfold ich
    rw [decide_eq_true_iff, x.1, x.2]
    exact ⟨by decide, (hc k hk).2⟩
  have ichn : ∀ w, w < 24 → ¬ rp w = nI p → ich S 13 w (nI p) = false := fun w hw hn => by
    unfold ich
    rw [decide_eq_false_iff_not]
    rintro ⟨y1, y2⟩
    rcases Nat.eq_zero_or_pos w with q | q
    · subst q
      rw [show S 24 0 (24 * 13 + 0) = -1 from z2] at y2
      exact nu_ne (by omega) (by decide) y2.symm
    · by_cases pl : Plc M C rl p m c w
      · rw [((h2 w q hw).1 pl).2] at y2; exact hn y2
      · exact y1 ((h2 w q hw).2 pl)
  have pl' : ∀ w, Plc M C rl p (m + 1) (insC c b v) w ↔ w = v ∨ Plc M C rl p m c w := fun w => by
    unfold Plc
    rw [insC_mem hb]
    constructor
    · rintro ((e | e) | e)
      · exact Or.inl e
      · exact Or.inr (Or.inl e)
      · exact Or.inr (Or.inr e)
    · rintro (e | e | e)
      · exact Or.inl (Or.inl e)
      · exact Or.inl (Or.inr e)
      · exact Or.inr e
  refine ⟨⟨?_, ?_, ?_⟩, fun w w0 hw => ⟨fun hpl => ?_, fun hpl => ?_⟩, fun p' k hp' hr' hk => ?_, fun k hk => ?_⟩
  · rw [(a1 (24 * 13) (by omega)).1]; exact z1
  · rw [(a1 (24 * 13) (by omega)).2]; exact z2
  · have := a5 0 (by decide) (by omega)
    rw [Nat.add_zero, ichn 0 (by decide) (fun e => ne0 0 e rfl), if_neg (fun y => absurd y.1 (by decide))] at this
    rw [this]; exact z3
  · by_cases q : w = v
    · subst q; exact ⟨a2, by rw [a3, hr]⟩
    · rw [(a1 (24 * 13 + w) (by omega)).1, (a1 (24 * 13 + w) (by omega)).2]
      exact (h2 w w0 hw).1 (((pl' w).mp hpl).resolve_left q)
  · have q : w ≠ v := fun e => hpl ((pl' w).mpr (Or.inl e))
    rw [(a1 (24 * 13 + w) (by omega)).1]
    exact (h2 w w0 hw).2 (fun e => hpl ((pl' w).mpr (Or.inr e)))
  · obtain ⟨b1, b2⟩ := hC p' k hp' hr' hk
    have nq := diff p' _ hp' b2
    have q : C p' k ≠ v := fun e => nq (by rw [e]; exact hr)
    rw [a5 _ b1 q, ichn _ b1 nq, if_neg (fun y => absurd y.1 (by decide))]
    exact h3 p' k hp' hr' hk
  · rcases Nat.lt_trichotomy k b with q | q | q
    · rw [insC_lo q, a5 _ (hc k (by omega)).1 (hnew k (by omega)), h4 k (by omega), if_neg (fun y => y.2 (nI_lt q (by omega)))]
    · subst q; rw [insC_at]; exact a4
    · rw [insC_hi q, a5 _ (hc (k - 1) (by omega)).1 (hnew (k - 1) (by omega)), h4 (k - 1) (by omega), if_pos ⟨ichy (k - 1) (by omega), nI_nlt (by omega) (by omega)⟩, nI_1, show k - 1 + 1 = k by omega]
theorem Oq_gap {n : Nat} {o pp : Nat → Nat} {po rp : Nat → Int32} {p i : Nat} (hS : Sh n o pp) (hp : p < 24) (hpo : ∀ j, 0 < j → j < n → po (o j) = nI (o (pp j))) (hp0 : po 0 = -1) : ∀ a, i ≤ a → a ≤ n → kc o pp p a = kc o pp p i → Oq o po rp p a = Oq o po rp p i := by
  intro a
  induction a with
  | zero => intro h _ _; rw [show i = 0 by omega]
  | succ a ih =>
    intro h h2 e
    rcases Nat.lt_or_ge a i with q | q
    · rw [show i = a + 1 by omega]
    · have m1 := kc_mono (o := o) (pp := pp) (p := p) (a := i) a q
      have m2 := kc_mono (o := o) (pp := pp) (p := p) (a := a) (a + 1) (by omega)
      have nc : ¬ (0 < a ∧ o (pp a) = p) := fun z => by rw [kc_y z] at e; omega
      rw [Oq_n (fun z => ?_)]
      · exact ih q (by omega) (by omega)
      · rcases Nat.eq_zero_or_pos a with w | w
        · subst w
          rw [hS.2.2.1, hp0] at z
          exact nu_ne (by omega) (by decide) z.1.symm
        · have hpa := hS.2.2.2.2.2.1 a w (by omega)
          have o1 := hS.2.2.2.1 (pp a) (by omega)
          rw [hpo a w (by omega)] at z
          exact nc ⟨w, (nI_eq (by omega) (by omega)).mp z.1⟩
theorem Tq_gap {n : Nat} {q0 : Nat × (Nat → Nat)} {o pp : Nat → Nat} {po pt rp : Nat → Int32} {p i : Nat} (hS : Sh n o pp) (hp : p < 24) (hpo : ∀ j, 0 < j → j < n → pt (o j) = nI (o (pp j))) (hp0 : pt 0 = -1) : ∀ a, i ≤ a → a ≤ n → kc o pp p a = kc o pp p i → Tq q0 o po pt rp p a = Tq q0 o po pt rp p i := by
  intro a
  induction a with
  | zero => intro h _ _; rw [show i = 0 by omega]
  | succ a ih =>
    intro h h2 e
    rcases Nat.lt_or_ge a i with q | q
    · rw [show i = a + 1 by omega]
    · have m1 := kc_mono (o := o) (pp := pp) (p := p) (a := i) a q
      have m2 := kc_mono (o := o) (pp := pp) (p := p) (a := a) (a + 1) (by omega)
      have nc : ¬ (0 < a ∧ o (pp a) = p) := fun z => by rw [kc_y z] at e; omega
      rw [Tq_n (fun z => ?_)]
      · exact ih q (by omega) (by omega)
      · rcases Nat.eq_zero_or_pos a with w | w
        · subst w
          rw [hS.2.2.1, hp0] at z
          exact nu_ne (by omega) (by decide) z.1.symm
        · have hpa := hS.2.2.2.2.2.1 a w (by omega)
          have o1 := hS.2.2.2.1 (pp a) (by omega)
          rw [hpo a w (by omega)] at z
          exact nc ⟨w, (nI_eq (by omega) (by omega)).mp z.1⟩
/-- a tree as a merge reads it -/
def PPd (d : sD) (po : Nat → Int32) : Prop := (∀ j, 0 < j → j < d.1 → po (d.2.1 j) = nI (d.2.1 (d.2.2.1 j))) ∧ po 0 = -1
theorem sp_m_putChildren {Q : ab_Po} {S : ab_S} {hO cT p made : Nat} {dO dT : sD} {po pt rl rp : Nat → Int32} {c0 : Nat → Nat} (kO : Okd made dO) (kT : Okd made dT) (hM : MD dO.1 dT.1 dO.2.1 dT.2.1 po pt) (pO : PPd dO po) (pT : PPd dT pt) (hh : S 21 0 10 = nI hO) (h12 : hO < 12) (c12 : cT < 12) (mO : MTd S hO dO) (mT : MTd S cT dT) (hs : StI S rl rp) (hrl : ∀ v, v < 24 → rl v = -2 → rp v = -2) (r0 : rp 0 = -1) (hp : p < 24)
    (hI : MI S (Mq dO.1 dT.1 dO.2.1 dT.2.1 po pt rp) (Cq dO.1 dT.1 dO.2.1 dT.2.1 po pt rp) rl rp p 0 c0)
    (hQ : ∀ S', OffB S S' → MI S' (Mq dO.1 dT.1 dO.2.1 dT.2.1 po pt rp) (Cq dO.1 dT.1 dO.2.1 dT.2.1 po pt rp) rl rp p (Mq dO.1 dT.1 dO.2.1 dT.2.1 po pt rp p) (Cq dO.1 dT.1 dO.2.1 dT.2.1 po pt rp p) → Q (.inl none) S') : Sp_X6_putChildren [.inr (21, 0), .inl (nI p), .inl (nI cT)] S Q := by
  refine ⟨Nat.le_of_ble_eq_true rfl, fun G hG => ?_⟩
  have hSO := kO.1
  have hST := kT.1
  have nO := hSO.2.1
  have nT := hST.2.1
  have hC : ∀ p' k, p' < p → rl p' ≠ -2 → k < Mq dO.1 dT.1 dO.2.1 dT.2.1 po pt rp p' → Cq dO.1 dT.1 dO.2.1 dT.2.1 po pt rp p' k < 24 ∧ rp (Cq dO.1 dT.1 dO.2.1 dT.2.1 po pt rp p' k) = nI p' := fun p' k hp' _ hk => by
    have := (Tq_ok (rp := rp) hM (show p' < 24 by omega) dT.1 (Nat.le_refl _)).2.1 k hk
    exact ⟨this.1, this.2.1⟩
  -- whether a node is a child now
  have now : ∀ (S1 : ab_S) (v : Nat), OffB S S1 → v < 24 → (S1 30 0 v = if rl v = -2 then 0 else 1) ∧ (rl v ≠ -2 → S1 33 0 v = rp v) := fun S1 v f1 hv => by
    rw [f1.1 30 0 (by omega), f1.1 33 0 (by omega)]
    exact ⟨(hs v hv).1, fun z => ((hs v hv).2 z).2⟩
  have seqlen : ∀ (m : Nat) (c : Nat → Nat), (∀ k, k < m → c k < 24) → (∀ k k', k < m → k' < m → c k = c k' → k = k') → m ≤ 24 := fun m c h1 h2 => fb_holes 24 m c h1 (fun i j hij hj e => by have := h2 i j (by omega) hj e; omega)
  -- theirs
  have passT : ∀ k, k ≤ kc dT.2.1 dT.2.2.1 p dT.1 → ∀ i, i ≤ dT.1 → kc dT.2.1 dT.2.2.1 p i = k → ∀ (S1 : ab_S) (x4 x5 : Int32), OffB S S1 → MI S1 (Mq dO.1 dT.1 dO.2.1 dT.2.1 po pt rp) (Cq dO.1 dT.1 dO.2.1 dT.2.1 po pt rp) rl rp p (Tq (Oq dO.2.1 po rp p dO.1) dT.2.1 po pt rp p i).1 (Tq (Oq dO.2.1 po rp p dO.1) dT.2.1 po pt rp p i).2.1 → ((x5 = -1 ∧ (Tq (Oq dO.2.1 po rp p dO.1) dT.2.1 po pt rp p i).2.2 = 0) ∨ ∃ v, v < 24 ∧ x5 = nI v ∧ 1 ≤ (Tq (Oq dO.2.1 po rp p dO.1) dT.2.1 po pt rp p i).2.2 ∧ (Tq (Oq dO.2.1 po rp p dO.1) dT.2.1 po pt rp p i).2.1 ((Tq (Oq dO.2.1 po rp p dO.1) dT.2.1 po pt rp p i).2.2 - 1) = v) → G 89 [some (.inr (21, 0)), some (.inl (nI p)), some (.inl (nI cT)), some (.inl (nI (kc dT.2.1 dT.2.2.1 p dT.1))), some (.inl x4), some (.inl x5), some (.inl (nI k)), none] [] S1 0 := by
    have kl := kc_le (o := dT.2.1) (pp := dT.2.2.1) (p := p) dT.1
    refine ind_up _ ?_ ?_
    · intro i hi ek S1 x4 x5 f1 I1 _
      refine bl_X6_putChildren_89 hG _ _ _ _ _ _ S1 (pk_le (kc dT.2.1 dT.2.2.1 p dT.1) (kc dT.2.1 dT.2.2.1 p dT.1) (fun _ => hQ S1 f1 ?_) (fun z => by omega))
      rw [← Tq_gap (q0 := Oq dO.2.1 po rp p dO.1) (po := po) (rp := rp) hST hp pT.1 pT.2 dT.1 hi (Nat.le_refl _) ek.symm] at I1
      exact I1
    · intro k hk ih i hi ek S1 x4 x5 f1 I1 hb
      obtain ⟨a, a0, ha, hpa, hka⟩ := kc_kth (o := dT.2.1) (pp := dT.2.2.1) (p := p) dT.1 hk
      have ia : i ≤ a := by
        rcases Nat.lt_or_ge a i with q | q
        · have := kc_mono (o := dT.2.1) (pp := dT.2.2.1) (p := p) (a := a + 1) i (by omega)
          rw [kc_y ⟨a0, hpa⟩] at this
          omega
        · exact q
      have eT := Tq_gap (q0 := Oq dO.2.1 po rp p dO.1) (po := po) (rp := rp) hST hp pT.1 pT.2 a ia (by omega) (hka.trans ek.symm)
      rw [← eT] at I1 hb
      have hTI := Tq_ok (rp := rp) hM hp a (by omega)
      have ov := hST.2.2.2.1 a ha
      have ptv : pt (dT.2.1 a) = nI p := by rw [pT.1 a a0 ha, hpa]
      have ka1 : kc dT.2.1 dT.2.2.1 p (a + 1) = k + 1 := by rw [kc_y ⟨a0, hpa⟩, hka]
      obtain ⟨n30, n33⟩ := now S1 (dT.2.1 a) f1 ov
      refine bl_X6_putChildren_89 hG _ _ _ _ _ _ S1 (pk_le (kc dT.2.1 dT.2.2.1 p dT.1) k (fun z => by omega) (fun _ => ?_))
      have mT1 := mT.offB kT (by omega) f1
      have cA := sp_m_childAtN (Q := ab_back Q G 103 [some (.inr (21, 0)), some (.inl (nI p)), some (.inl (nI cT)), some (.inl (nI (kc dT.2.1 dT.2.2.1 p dT.1))), some (.inl x4), some (.inl x5), some (.inl (nI k)), none] [] 0) hST mT1 (show cT < 14 by omega) a0 ha hpa
      rw [hka] at cA
      refine cA ?_
      refine bl_X6_putChildren_103 hG _ _ _ _ _ _ _ S1 ?_
      rw [nI_clamp (by omega), n30, nI_1]
      have skip : ¬ rp (dT.2.1 a) = nI p → G 89 [some (.inr (21, 0)), some (.inl (nI p)), some (.inl (nI cT)), some (.inl (nI (kc dT.2.1 dT.2.2.1 p dT.1))), some (.inl x4), some (.inl x5), some (.inl (nI (k + 1))), none] [] S1 0 := fun hno => by
        have eN := Tq_n (q0 := Oq dO.2.1 po rp p dO.1) (o := dT.2.1) (po := po) (pt := pt) (rp := rp) (p := p) (i := a) (fun z => hno z.2)
        exact ih (a + 1) (by omega) ka1 S1 x4 x5 f1 (by rw [eN]; exact I1) (by rw [eN]; exact hb)
      refine ⟨vp_in_nI ov (by decide), fun z => skip (fun e => ?_), fun z => ⟨vp_in_nI ov (by decide), ?_⟩⟩
      · by_cases c : rl (dT.2.1 a) = -2
        · rw [hrl _ ov c] at e; exact nu_ne (by omega) (by decide) e.symm
        · rw [if_neg c] at z; exact absurd z (by decide)
      · have c : rl (dT.2.1 a) ≠ -2 := fun c => by rw [if_pos c] at z; exact z rfl
        rw [n33 c]
        refine ⟨fun e => ?_, fun e => skip e⟩
        have v0 : dT.2.1 a ≠ 0 := fun w => by rw [w, r0] at e; exact nu_ne (by omega) (by decide) e.symm
        have i13 : vp_in (nI (24 * 13 + dT.2.1 a)) 336 := vp_in_nI (by omega) (by decide)
        rw [m312, nI_clamp (by omega)]
        refine ⟨i13, fun t0 => ?_, fun t0 => ?_⟩
        · -- it isn't there yet
          have po' : ¬ po (dT.2.1 a) = nI p := fun w => by
            have hm := hTI.2.2.2.1 _ ov w e
            rw [((I1.2.1 _ (by omega) ov).1 (Or.inl hm)).1] at t0
            exact absurd t0 (by decide)
          have new := hTI.fresh hM ha po'
          have eY := Tq_y (q0 := Oq dO.2.1 po rp p dO.1) (o := dT.2.1) (po := po) (pt := pt) (rp := rp) (p := p) (i := a) ⟨ptv, e⟩ po'
          have m24 := seqlen _ _ (fun k hk => (hTI.2.1 k hk).1) hTI.2.2.1
          have hng : ∀ x : Int32, x = nI (Tq (Oq dO.2.1 po rp p dO.1) dT.2.1 po pt rp p a).2.2 → Sp_X6_hang [.inr (21, 0), .inl (13 : Int32), .inl (nI (dT.2.1 a)), .inl (nI p), .inl x] S1 (ab_back Q G 171 [some (.inr (21, 0)), some (.inl (nI p)), some (.inl (nI cT)), some (.inl (nI (kc dT.2.1 dT.2.2.1 p dT.1))), some (.inl x4), some (.inl x5), some (.inl (nI k)), some (.inl (nI (dT.2.1 a)))] [] 0) := fun x hx => by
            subst hx
            refine sp_m_hang (u := 13) (by decide) ov (fun S2 g1 g2 g3 g4 g5 g6 g7 => ?_)
            refine bl_X6_putChildren_171 hG _ _ _ _ _ _ _ S2 ?_
            rw [nI_1]
            have f2 : OffB S1 S2 := ⟨g1, fun a' j z => by
              by_cases q : a' = 22
              · subst q; exact (g2 j (by omega)).1
              by_cases q2 : a' = 24
              · subst q2; exact (g2 j (by omega)).2
              by_cases q3 : a' = 25
              · subst q3; exact g6 j z
              rw [g1 a' 0 (by omega)]⟩
            refine ih (a + 1) (by omega) ka1 S2 x4 _ (f1.tr f2) ?_ ?_
            · rw [eY]
              exact I1.hang hp ov e r0 hTI.1 m24 new hTI.2.2.1 (fun k hk => ⟨(hTI.2.1 k hk).1, (hTI.2.1 k hk).2.1⟩) hC g2 g3 g4 g5 g7
            · rw [eY]
              exact Or.inr ⟨_, ov, rfl, by show 1 ≤ _ + 1; omega, by show insC _ _ _ (_ + 1 - 1) = _; rw [Nat.add_sub_cancel, insC_at]⟩
          rcases hb with ⟨y1, y2⟩ | ⟨v, hv, y1, y2, y3⟩
          · refine ⟨fun w => by rw [y1] at w; exact absurd w (by decide), fun _ => hng 0 ?_⟩
            rw [y2]; rfl
          · rw [y1]
            refine ⟨fun _ => ?_, fun w => absurd (nI_pos' (by omega)) w⟩
            have pl := I1.2.2.2 ((Tq (Oq dO.2.1 po rp p dO.1) dT.2.1 po pt rp p a).2.2 - 1) (by have := hTI.1; omega)
            rw [y3] at pl
            rw [m312, nI_clamp (by omega), pl, nI_1]
            rw [y1] at hng
            exact ⟨vp_in_nI (by omega) (by decide), hng _ (by rw [show (Tq (Oq dO.2.1 po rp p dO.1) dT.2.1 po pt rp p a).2.2 - 1 + 1 = (Tq (Oq dO.2.1 po rp p dO.1) dT.2.1 po pt rp p a).2.2 by omega])⟩
        · -- it came with ours
          have po' : po (dT.2.1 a) = nI p := by
            apply Classical.byContradiction
            intro w
            have new := hTI.fresh hM ha w
            refine t0 ((I1.2.1 _ (by omega) ov).2 ?_)
            rintro (⟨k', hk', ek'⟩ | ⟨p', hp', hr', k', hk', ek'⟩)
            · exact new k' hk' ek'
            · have := (hC p' k' hp' hr' hk').2
              rw [ek', e] at this
              have := (nI_eq (by omega) (by omega)).mp this
              omega
          have eO := Tq_o (q0 := Oq dO.2.1 po rp p dO.1) (o := dT.2.1) (po := po) (pt := pt) (rp := rp) (p := p) (i := a) ⟨ptv, e⟩ po'
          obtain ⟨x1, x2⟩ := idx_ok _ (hTI.2.2.2.1 _ ov po' e)
          refine ih (a + 1) (by omega) ka1 S1 x4 _ f1 (by rw [eO]; exact I1) ?_
          rw [eO]
          exact Or.inr ⟨_, ov, rfl, by show 1 ≤ _ + 1; omega, by show _ = _; rw [Nat.add_sub_cancel]; exact x2⟩
  -- ours
  have passO : ∀ k, k ≤ kc dO.2.1 dO.2.2.1 p dO.1 → ∀ i, i ≤ dO.1 → kc dO.2.1 dO.2.2.1 p i = k → ∀ (S1 : ab_S), OffB S S1 → MI S1 (Mq dO.1 dT.1 dO.2.1 dT.2.1 po pt rp) (Cq dO.1 dT.1 dO.2.1 dT.2.1 po pt rp) rl rp p (Oq dO.2.1 po rp p i).1 (Oq dO.2.1 po rp p i).2 → G 16 [some (.inr (21, 0)), some (.inl (nI p)), some (.inl (nI cT)), some (.inl (nI (kc dO.2.1 dO.2.2.1 p dO.1))), some (.inl (nI (Oq dO.2.1 po rp p i).1)), some (.inl (nI k)), none, none] [] S1 0 := by
    have kl := kc_le (o := dO.2.1) (pp := dO.2.2.1) (p := p) dO.1
    refine ind_up _ ?_ ?_
    · intro i hi ek S1 f1 I1
      refine bl_X6_putChildren_16 hG _ _ _ _ _ S1 (pk_le (kc dO.2.1 dO.2.2.1 p dO.1) (kc dO.2.1 dO.2.2.1 p dO.1) (fun _ => ?_) (fun z => by omega))
      rw [← Oq_gap (po := po) (rp := rp) hSO hp pO.1 pO.2 dO.1 hi (Nat.le_refl _) ek.symm] at I1
      refine sp_m_childrenN hST (mT.offB kT (by omega) f1) (by omega) hp ?_
      refine bl_X6_putChildren_85 hG _ _ _ _ _ _ S1 ?_
      exact passT 0 (by omega) 0 (by omega) rfl S1 _ (-1) f1 I1 (Or.inl ⟨rfl, rfl⟩)
    · intro k hk ih i hi ek S1 f1 I1
      obtain ⟨a, a0, ha, hpa, hka⟩ := kc_kth (o := dO.2.1) (pp := dO.2.2.1) (p := p) dO.1 hk
      have ia : i ≤ a := by
        rcases Nat.lt_or_ge a i with q | q
        · have := kc_mono (o := dO.2.1) (pp := dO.2.2.1) (p := p) (a := a + 1) i (by omega)
          rw [kc_y ⟨a0, hpa⟩] at this
          omega
        · exact q
      have eO := Oq_gap (po := po) (rp := rp) hSO hp pO.1 pO.2 a ia (by omega) (hka.trans ek.symm)
      rw [← eO] at I1 ⊢
      have hOI := Oq_ok (rp := rp) hM p a (by omega)
      have ov := hSO.2.2.2.1 a ha
      have pov : po (dO.2.1 a) = nI p := by rw [pO.1 a a0 ha, hpa]
      have ka1 : kc dO.2.1 dO.2.2.1 p (a + 1) = k + 1 := by rw [kc_y ⟨a0, hpa⟩, hka]
      obtain ⟨n30, n33⟩ := now S1 (dO.2.1 a) f1 ov
      refine bl_X6_putChildren_16 hG _ _ _ _ _ S1 (pk_le (kc dO.2.1 dO.2.2.1 p dO.1) k (fun z => by omega) (fun _ => ?_))
      have h10 : S1 21 0 10 = nI hO := by rw [f1.1 21 0 (by omega)]; exact hh
      rw [h10]
      have cA := sp_m_childAtN (Q := ab_back Q G 33 [some (.inr (21, 0)), some (.inl (nI p)), some (.inl (nI cT)), some (.inl (nI (kc dO.2.1 dO.2.2.1 p dO.1))), some (.inl (nI (Oq dO.2.1 po rp p a).1)), some (.inl (nI k)), none, none] [] 0) hSO (mO.offB kO (by omega) f1) (show hO < 14 by omega) a0 ha hpa
      rw [hka] at cA
      refine cA ?_
      refine bl_X6_putChildren_33 hG _ _ _ _ _ _ S1 ?_
      rw [nI_clamp (by omega), n30, nI_1]
      have skip : ¬ rp (dO.2.1 a) = nI p → G 16 [some (.inr (21, 0)), some (.inl (nI p)), some (.inl (nI cT)), some (.inl (nI (kc dO.2.1 dO.2.2.1 p dO.1))), some (.inl (nI (Oq dO.2.1 po rp p a).1)), some (.inl (nI (k + 1))), none, none] [] S1 0 := fun hno => by
        have eN := Oq_n (o := dO.2.1) (po := po) (rp := rp) (p := p) (i := a) (fun z => hno z.2)
        have := ih (a + 1) (by omega) ka1 S1 f1 (by rw [eN]; exact I1)
        rw [eN] at this
        exact this
      refine ⟨vp_in_nI ov (by decide), fun z => skip (fun e => ?_), fun z => ⟨vp_in_nI ov (by decide), ?_⟩⟩
      · by_cases c : rl (dO.2.1 a) = -2
        · rw [hrl _ ov c] at e; exact nu_ne (by omega) (by decide) e.symm
        · rw [if_neg c] at z; exact absurd z (by decide)
      · have c : rl (dO.2.1 a) ≠ -2 := fun c => by rw [if_pos c] at z; exact z rfl
        rw [n33 c]
        refine ⟨fun e => ?_, fun e => skip e⟩
        have eY := Oq_y (o := dO.2.1) (po := po) (rp := rp) (p := p) (i := a) ⟨pov, e⟩
        have cfac : ∀ k', k' < (Oq dO.2.1 po rp p a).1 → (Oq dO.2.1 po rp p a).2 k' < 24 ∧ rp ((Oq dO.2.1 po rp p a).2 k') = nI p := fun k' hk' => by
          obtain ⟨j, hj, e2, _, e3⟩ := hOI.1 k' hk'
          rw [e2]; exact ⟨hSO.2.2.2.1 j (by omega), e3⟩
        have new : ∀ k', k' < (Oq dO.2.1 po rp p a).1 → (Oq dO.2.1 po rp p a).2 k' ≠ dO.2.1 a := fun k' hk' e2 => by
          obtain ⟨j, hj, e3, _⟩ := hOI.1 k' hk'
          have := hM.2.1 j a (by omega) ha (e3.symm.trans e2)
          omega
        have m24 := seqlen _ _ (fun k hk => (cfac k hk).1) hOI.2.1
        refine sp_m_hang (u := 13) (by decide) ov (fun S2 g1 g2 g3 g4 g5 g6 g7 => ?_)
        refine bl_X6_putChildren_67 hG _ _ _ _ _ _ S2 ?_
        rw [nI_1, nI_1]
        have f2 : OffB S1 S2 := ⟨g1, fun a' j z => by
          by_cases q : a' = 22
          · subst q; exact (g2 j (by omega)).1
          by_cases q2 : a' = 24
          · subst q2; exact (g2 j (by omega)).2
          by_cases q3 : a' = 25
          · subst q3; exact g6 j z
          rw [g1 a' 0 (by omega)]⟩
        have := ih (a + 1) (by omega) ka1 S2 (f1.tr f2) (by
          rw [eY]
          exact I1.hang hp ov e r0 (Nat.le_refl _) m24 new hOI.2.1 cfac hC g2 g3 g4 g5 g7)
        rw [eY] at this
        exact this
  refine bl_X6_putChildren_0 hG _ _ S ?_
  rw [hh]
  refine sp_m_childrenN hSO mO (by omega) hp ?_
  refine bl_X6_putChildren_9 hG _ _ _ S ?_
  exact passO 0 (by omega) 0 (by omega) rfl S OffB.rf ⟨hI.1, fun w w0 hw => ⟨fun hpl => (hI.2.1 w w0 hw).1 (hpl.elim (fun ⟨k, hk, _⟩ => absurd hk (Nat.not_lt_zero k)) Or.inr), fun hpl => (hI.2.1 w w0 hw).2 (fun y => hpl (y.elim (fun ⟨k, hk, _⟩ => absurd hk (Nat.not_lt_zero k)) Or.inr))⟩, hI.2.2.1, fun k hk => absurd hk (Nat.not_lt_zero k)⟩
