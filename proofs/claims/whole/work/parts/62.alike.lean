/-! Equal parts. -/
def Al (n : Nat) (o pp : Nat → Nat) (lb : Nat → Int32) (a b : Nat) : Prop := ∃ ea eb, En n pp a ea ∧ En n pp b eb ∧ ea - a = eb - b ∧ ∀ i, i < ea - a → lb (o (a + i)) = lb (o (b + i)) ∧ (0 < i → pp (a + i) - a = pp (b + i) - b)
theorem Al.rf {n : Nat} {o pp : Nat → Nat} {lb : Nat → Int32} {a : Nat} (ha : a < n) : Al n o pp lb a a := by
  obtain ⟨e, he⟩ := En_ex (pp := pp) ha
  exact ⟨e, e, he, he, rfl, fun _ _ => ⟨rfl, fun _ => rfl⟩⟩
theorem Al.sy {n : Nat} {o pp : Nat → Nat} {lb : Nat → Int32} {a b : Nat} (h : Al n o pp lb a b) : Al n o pp lb b a := by
  obtain ⟨ea, eb, h1, h2, h3, h4⟩ := h
  exact ⟨eb, ea, h2, h1, h3.symm, fun i hi => ⟨(h4 i (by omega)).1.symm, fun i0 => ((h4 i (by omega)).2 i0).symm⟩⟩
theorem Al.tr {n : Nat} {o pp : Nat → Nat} {lb : Nat → Int32} {a b c : Nat} (h : Al n o pp lb a b) (h' : Al n o pp lb b c) : Al n o pp lb a c := by
  obtain ⟨ea, eb, h1, h2, h3, h4⟩ := h
  obtain ⟨eb', ec, k1, k2, k3, k4⟩ := h'
  have := En_one h2 k1
  subst this
  exact ⟨ea, ec, h1, k2, by omega, fun i hi => ⟨(h4 i hi).1.trans (k4 i (by omega)).1, fun i0 => ((h4 i hi).2 i0).trans ((k4 i (by omega)).2 i0)⟩⟩
theorem Al.lab {n : Nat} {o pp : Nat → Nat} {lb : Nat → Int32} {a b : Nat} (h : Al n o pp lb a b) : lb (o a) = lb (o b) := by
  obtain ⟨ea, eb, h1, h2, h3, h4⟩ := h
  exact (h4 0 (by have := h1.1; omega)).1
theorem Al.cks {n : Nat} {o pp : Nat → Nat} {lb : Nat → Int32} {a b ea : Nat} (hL : Lp n pp) (h : Al n o pp lb a b) (he : En n pp a ea) : ∀ d, 0 < d → d ≤ ea - a → ck pp a (a + d) = ck pp b (b + d) := fun d d0 hd => by
  obtain ⟨ea', eb, h1, h2, h3, h4⟩ := h
  have := En_one he h1
  subst this
  have e1 := ck_part (c := 0) hL h1 d d0 hd
  have e2 := ck_part (c := 0) hL h2 d d0 (by omega)
  rw [Nat.add_zero] at e1 e2
  rw [← e1, ← e2]
  exact ck_congr d (fun j j0 hj => (h4 j (by omega)).2 j0)
theorem Al.num {n : Nat} {o pp : Nat → Nat} {lb : Nat → Int32} {a b : Nat} (hL : Lp n pp) (h : Al n o pp lb a b) : ck pp a n = ck pp b n := by
  obtain ⟨ea, eb, h1, h2, h3, h4⟩ := id h
  have e1 := h1.1
  have e2 := h2.1
  have := h.cks hL h1 (ea - a) (by omega) (by omega)
  rw [ck_end hL h1, ck_end hL h2, show ea = a + (ea - a) by omega, this, show b + (ea - a) = eb by omega]
theorem Al.kid {n : Nat} {o pp : Nat → Nat} {lb : Nat → Int32} {u v a b : Nat} (hL : Lp n pp) (h : Al n o pp lb u v) (a0 : 0 < a) (ha : a < n) (hpa : pp a = u) (b0 : 0 < b) (hb : b < n) (hpb : pp b = v) (hk : ck pp u a = ck pp v b) : Al n o pp lb a b := by
  obtain ⟨eu, ev, h1, h2, h3, h4⟩ := id h
  have ua := hL.1 a a0 ha
  have vb := hL.1 b b0 hb
  have ae : a < eu := by
    rcases Nat.lt_or_ge a eu with q | q
    · exact q
    · have := En_out hL h1 q ha
      have := h1.1
      omega
  have be : b < ev := by
    rcases Nat.lt_or_ge b ev with q | q
    · exact q
    · have := En_out hL h2 q hb
      have := h2.1
      omega
  -- the same offset
  have off : b = v + (a - u) := by
    have q1 := h.cks hL h1 (a - u) (by omega) (by omega)
    rw [show u + (a - u) = a by omega] at q1
    have q2 := (h4 (a - u) (by omega)).2 (by omega)
    rw [show u + (a - u) = a by omega, hpa] at q2
    have q3 := (En_in hL h2 (i := v + (a - u)) (by omega) (by omega)).1
    have q4 : pp (v + (a - u)) = v := by omega
    rcases Nat.lt_trichotomy b (v + (a - u)) with w | w | w
    · have := ck_inj b0 w hpb
      omega
    · exact w
    · have := ck_inj (pp := pp) (i := v + (a - u)) (j := b) (by omega) w q4
      omega
  obtain ⟨e, he⟩ := En_ex (pp := pp) ha
  have ele := En_le hL h1 he (by omega) ae
  have he1 := he.1
  have len : En n pp b (v + (e - u)) := by
    have h22 := h2.2.1
    refine ⟨by omega, by omega, fun j j1 j2 => ?_, ?_⟩
    · have q := (h4 (j - v) (by omega)).2 (by omega)
      rw [show v + (j - v) = j by omega] at q
      have q1 := he.2.2.1 (u + (j - v)) (by omega) (by omega)
      have q2 := (En_in hL h2 (i := j) (by omega) (by omega)).1
      omega
    · rcases Nat.lt_or_ge e eu with w | w
      · right
        have q := (h4 (e - u) (by omega)).2 (by omega)
        rw [show u + (e - u) = e by omega] at q
        have q1 := (En_in hL h1 (i := e) (by omega) w).1
        have q2 := (En_in hL h2 (i := v + (e - u)) (by omega) (by omega)).1
        rcases he.2.2.2 with y | y
        · have := h1.2.1; omega
        · omega
      · rcases h2.2.2.2 with y | y
        · left; omega
        · right; rw [show v + (e - u) = ev by omega]; omega
  refine ⟨e, v + (e - u), he, len, by omega, fun i hi => ⟨?_, fun i0 => ?_⟩⟩
  · have q := (h4 (a - u + i) (by omega)).1
    rw [show u + (a - u + i) = a + i by omega, show v + (a - u + i) = b + i by omega] at q
    exact q
  · have q := (h4 (a - u + i) (by omega)).2 (by omega)
    rw [show u + (a - u + i) = a + i by omega, show v + (a - u + i) = b + i by omega] at q
    have q1 := (En_in hL he (i := a + i) (by omega) (by omega)).1
    have q2 := (En_in hL len (i := b + i) (by omega) (by omega)).1
    omega
theorem Al.up {n : Nat} {o pp : Nat → Nat} {lb : Nat → Int32} {u v : Nat} (hL : Lp n pp) (hu : u < n) (hv : v < n) (hl : lb (o u) = lb (o v)) (hn : ck pp u n = ck pp v n) (hk : ∀ a b, 0 < a → a < n → pp a = u → 0 < b → b < n → pp b = v → ck pp u a = ck pp v b → Al n o pp lb a b) : Al n o pp lb u v := by
  obtain ⟨eu, heu⟩ := En_ex (pp := pp) hu
  obtain ⟨ev, hev⟩ := En_ex (pp := pp) hv
  have key : ∀ k, k ≤ ck pp u n → ∃ p q, u < p ∧ v < q ∧ p - u = q - v ∧ (k < ck pp u n → (p < n ∧ pp p = u ∧ ck pp u p = k) ∧ (q < n ∧ pp q = v ∧ ck pp v q = k)) ∧ (k = ck pp u n → p = eu ∧ q = ev) ∧ ∀ i, i < p - u → lb (o (u + i)) = lb (o (v + i)) ∧ (0 < i → pp (u + i) - u = pp (v + i) - v) := by
    intro k
    induction k with
    | zero =>
      intro _
      have fu := kid_first hL hu heu
      have fv := kid_first hL hv hev
      refine ⟨u + 1, v + 1, by omega, by omega, by omega, fun h0 => ⟨?_, ?_⟩, fun h0 => ⟨?_, ?_⟩, fun i hi => ?_⟩
      · obtain ⟨a, a0, ha, hp, hc⟩ := ck_kth n h0
        have := fu.2 a a0 ha hp hc
        subst this
        exact ⟨ha, hp, hc⟩
      · obtain ⟨a, a0, ha, hp, hc⟩ := ck_kth (pp := pp) (s := v) (k := 0) n (by omega)
        have := fv.2 a a0 ha hp hc
        subst this
        exact ⟨ha, hp, hc⟩
      · exact (fu.1 h0.symm).symm
      · exact (fv.1 (by omega)).symm
      · have : i = 0 := by omega
        subst this
        exact ⟨hl, fun z => by omega⟩
    | succ k ih =>
      intro hk2
      obtain ⟨p, q, up, vq, epq, hc, _, hi⟩ := ih (by omega)
      obtain ⟨⟨p1, p2, p3⟩, q1, q2, q3⟩ := hc (by omega)
      obtain ⟨e, f, he, hf, hlen, hin⟩ := hk p q (by omega) p1 p2 (by omega) q1 q2 (by omega)
      have he1 := he.1
      have hf1 := hf.1
      have nu := kid_next hL (show 0 < p by omega) p1 p2 he heu
      have nv := kid_next hL (show 0 < q by omega) q1 q2 hf hev
      refine ⟨e, f, by omega, by omega, by omega, fun h0 => ⟨?_, ?_⟩, fun h0 => ⟨?_, ?_⟩, fun i hi2 => ?_⟩
      · rcases nu with w | w
        · exact ⟨w.1, w.2.1, by omega⟩
        · omega
      · rcases nv with w | w
        · exact ⟨w.1, w.2.1, by omega⟩
        · omega
      · rcases nu with w | w
        · have := ck_mono (pp := pp) (s := u) (a := e + 1) n (by omega)
          rw [ck_yes (by omega) w.2.1] at this
          omega
        · exact w.1
      · rcases nv with w | w
        · have := ck_mono (pp := pp) (s := v) (a := f + 1) n (by omega)
          rw [ck_yes (by omega) w.2.1] at this
          omega
        · exact w.1
      · rcases Nat.lt_or_ge i (p - u) with w | w
        · exact hi i w
        · obtain ⟨m, hm⟩ : ∃ m, i = p - u + m := ⟨i - (p - u), by omega⟩
          subst hm
          have z := hin m (by omega)
          rw [show u + (p - u + m) = p + m by omega, show v + (p - u + m) = q + m by omega]
          refine ⟨z.1, fun _ => ?_⟩
          rcases Nat.eq_zero_or_pos m with y | y
          · subst y; rw [Nat.add_zero, Nat.add_zero, p2, q2]; omega
          · have z2 := z.2 y
            have r1 := (En_in hL he (i := p + m) (by omega) (by omega)).1
            have r2 := (En_in hL hf (i := q + m) (by omega) (by omega)).1
            omega
  obtain ⟨p, q, up, vq, epq, _, hend, hi⟩ := key (ck pp u n) (Nat.le_refl _)
  obtain ⟨rfl, rfl⟩ := hend rfl
  exact ⟨p, q, heu, hev, epq, hi⟩
/-! The class. -/
theorem sp_c_areAlike {Q : ab_Po} {S : ab_S} {t n a b : Nat} {o pp : Nat → Nat} {lb : Nat → Int32} (hS : Sh n o pp) (hT : Tr S t n o pp lb) (ha : a < n) (hb : b < n) (h1 : Al n o pp lb a b → Q (.inl (some 1)) S) (h0 : ¬ Al n o pp lb a b → Q (.inl (some 0)) S) : Sp_X4_areAlike [.inr (4, t), .inl (nI a), .inl (nI b)] S Q := by
  refine ⟨Nat.le_of_ble_eq_true rfl, fun G hG => ?_⟩
  have hn := hS.2.1
  have hL := hS.2.2.2.2.2
  have o24 := hS.2.2.2.1
  refine bl_X4_areAlike_0 hG t _ _ S (sp_endOf (hT.rw hS) (hT.pa hS) ha (fun ea hea => ?_))
  refine bl_X4_areAlike_5 hG t _ _ _ S (sp_endOf (hT.rw hS) (hT.pa hS) hb (fun eb heb => ?_))
  have a1 := hea.1
  have a2 := hea.2.1
  have b1 := heb.1
  have b2 := heb.2.1
  rw [pk_sub (by omega)]
  refine bl_X4_areAlike_13 hG t _ _ _ _ S ?_
  rw [pk_sub (by omega), nI_clamp (by omega), nI_clamp (by omega), (hT.2.1 a ha).1, (hT.2.1 b hb).1]
  have oa := o24 a ha
  have ob := o24 b hb
  rw [nI_clamp (by omega), nI_clamp (by omega), (hT.2.1 a ha).2.2, (hT.2.1 b hb).2.2]
  have one : Al n o pp lb a b → ea - a = eb - b ∧ ∀ i, i < ea - a → lb (o (a + i)) = lb (o (b + i)) ∧ (0 < i → pp (a + i) - a = pp (b + i) - b) := fun ⟨e, f, q1, q2, q3, q4⟩ => by
    have := En_one hea q1
    have := En_one heb q2
    subst e; subst f
    exact ⟨q3, q4⟩
  refine pk_eq (eb - b) (ea - a) (fun hlen => ⟨vp_in_nI (by omega) (by decide), vp_in_nI (by omega) (by decide), vp_in_nI (by omega) (by decide), vp_in_nI (by omega) (by decide), fun hl => ?_, fun hl => h0 (fun z => hl z.lab)⟩) (fun hlen => h0 (fun z => hlen (one z).1.symm))
  have key : ∀ k, k ≤ ea - a → 1 ≤ k → (∀ i, i < k → lb (o (a + i)) = lb (o (b + i)) ∧ (0 < i → pp (a + i) - a = pp (b + i) - b)) → G 49 [some (.inr (4, t)), some (.inl (nI a)), some (.inl (nI b)), some (.inl (nI (ea - a))), some (.inl (nI k)), none, none] [] S 0 := by
    refine ind_up _ ?_ ?_
    · intro _ hi
      refine bl_X4_areAlike_49 hG t _ _ _ _ S ?_
      exact pk_le (ea - a) (ea - a) (fun _ => h1 ⟨ea, eb, hea, heb, by omega, hi⟩) (fun z => by omega)
    · intro k hk ih k1 hi
      refine bl_X4_areAlike_49 hG t _ _ _ _ S ?_
      have ok := o24 (a + k) (by omega)
      have ol := o24 (b + k) (by omega)
      rw [nI_add, nI_add, nI_clamp (by omega), nI_clamp (by omega), (hT.2.1 (a + k) (by omega)).1, (hT.2.1 (b + k) (by omega)).1, nI_clamp (by omega), nI_clamp (by omega), (hT.2.1 (a + k) (by omega)).2.2, (hT.2.1 (b + k) (by omega)).2.2]
      have pa := En_in hL hea (i := a + k) (by omega) (by omega)
      have pb := En_in hL heb (i := b + k) (by omega) (by omega)
      have go : ∀ fl : Int32, ((fl = 1 ∧ lb (o (a + k)) = lb (o (b + k))) ∨ (fl = 0 ∧ ¬ lb (o (a + k)) = lb (o (b + k)))) → Sp_X4_parentSpot [.inr (4, t), .inl (nI (a + k))] S (ab_back Q G 101 [some (.inr (4, t)), some (.inl (nI a)), some (.inl (nI b)), some (.inl (nI (ea - a))), some (.inl (nI k)), some (.inl fl), none] [] 0) := fun fl hf => by
        refine sp_parentSpot (hT.rw hS) (hT.pa hS) (by omega) (by omega) ?_
        refine bl_X4_areAlike_101 hG t _ _ _ _ _ _ S ?_
        rw [nI_add]
        refine sp_parentSpot (hT.rw hS) (hT.pa hS) (by omega) (by omega) ?_
        rw [pk_sub pa.1]
        refine bl_X4_areAlike_111 hG t _ _ _ _ _ _ _ S ?_
        rw [pk_sub pb.1, nI_1]
        refine pk_eq (pp (a + k) - a) (pp (b + k) - b) (fun e => ?_) (fun e => ?_)
        · rcases hf with ⟨rfl, hl2⟩ | ⟨rfl, hl2⟩
          · exact ⟨fun z => absurd z (by decide), fun _ => ⟨fun z => absurd z (by decide), fun _ => ih (by omega) (fun i hik => by
              by_cases q : i = k
              · subst q; exact ⟨hl2, fun _ => e⟩
              · exact hi i (by omega))⟩⟩
          · exact ⟨fun _ => h0 (fun z => hl2 ((one z).2 k (by omega)).1), fun z => absurd rfl z⟩
        · have no : Q (.inl (some 0)) S := h0 (fun z => e (((one z).2 k (by omega)).2 (by omega)))
          exact ⟨fun _ => no, fun _ => ⟨fun _ => no, fun z => absurd rfl z⟩⟩
      refine pk_le (ea - a) k (fun z => by omega) (fun _ => ⟨vp_in_nI (by omega) (by decide), vp_in_nI (by omega) (by decide), vp_in_nI (by omega) (by decide), vp_in_nI (by omega) (by decide), fun hl2 => go 1 (Or.inl ⟨rfl, hl2⟩), fun hl2 => go 0 (Or.inr ⟨rfl, hl2⟩)⟩)
  refine key 1 (by omega) (by omega) (fun i hi => ?_)
  have : i = 0 := by omega
  subst this
  exact ⟨hl, fun z => by omega⟩
theorem sp_c_firstAlike {Q : ab_Po} {S : ab_S} {t n s : Nat} {o pp : Nat → Nat} {lb : Nat → Int32} (hS : Sh n o pp) (hT : Tr S t n o pp lb) (hs : s < n) (hQ : ∀ i, i ≤ s → Al n o pp lb i s → (∀ j, j < i → ¬ Al n o pp lb j s) → Q (.inl (some (nI (o i)))) S) : Sp_X4_firstAlike [.inr (4, t), .inl (nI (o s))] S Q := by
  refine ⟨Nat.le_of_ble_eq_true rfl, fun G hG => ?_⟩
  have hn := hS.2.1
  have os := hS.2.2.2.1 s hs
  refine bl_X4_firstAlike_0 hG t _ S ?_
  have key : ∀ k, k ≤ s → (∀ j, j < k → ¬ Al n o pp lb j s) → G 2 [some (.inr (4, t)), some (.inl (nI (o s))), some (.inl (nI k))] [] S 0 := by
    refine ind_up _ ?_ ?_
    · intro hno
      refine bl_X4_firstAlike_2 hG t _ _ S ?_
      rw [nI_clamp (by omega), (hT.2.1 s hs).2.1]
      exact ⟨vp_in_nI (by omega) (by decide), pk_le s s (fun _ => hQ s (by omega) (Al.rf hs) hno) (fun z => by omega)⟩
    · intro k hk ih hno
      refine bl_X4_firstAlike_2 hG t _ _ S ?_
      rw [nI_clamp (by omega), (hT.2.1 s hs).2.1]
      refine ⟨vp_in_nI (by omega) (by decide), pk_le s k (fun z => by omega) (fun _ => ⟨vp_in_nI (by omega) (by decide), ?_⟩)⟩
      refine sp_c_areAlike hS hT (by omega) hs (fun hA => ?_) (fun hA => ?_)
      · refine bl_X4_firstAlike_23 hG t _ _ _ S ⟨fun z => absurd z (by decide), fun _ => ⟨vp_in_nI (by omega) (by decide), ?_⟩⟩
        rw [nI_clamp (by omega), (hT.2.1 k (by omega)).1]
        exact hQ k (by omega) hA hno
      · refine bl_X4_firstAlike_23 hG t _ _ _ S ⟨fun _ => ?_, fun z => absurd rfl z⟩
        rw [nI_1]
        exact ih (fun j hj => by
          by_cases q : j = k
          · subst q; exact hA
          · exact hno j (by omega))
  exact key 0 (by omega) (fun j hj => by omega)
/-! The model. -/
theorem sp_m_areAlike {Q : ab_Po} {S : ab_S} {n u v : Nat} {o pp : Nat → Nat} {lb : Nat → Int32} (hS : Sh n o pp) (hT : TM S 12 n o pp lb) (huv : u < v) (hv : v < n) (hA : ∀ a b, u < a → a < n → u < b → b < n → (S 36 0 (o a) = S 36 0 (o b) ↔ Al n o pp lb a b)) (h1 : Al n o pp lb u v → Q (.inl (some 1)) S) (h0 : ¬ Al n o pp lb u v → Q (.inl (some 0)) S) : Sp_X6_areAlike [.inr (21, 0), .inl (nI (o u)), .inl (nI (o v))] S Q := by
  refine ⟨Nat.le_of_ble_eq_true rfl, fun G hG => ?_⟩
  have hn := hS.2.1
  have hL := hS.2.2.2.2.2
  have o24 := hS.2.2.2.1
  have ou := o24 u (by omega)
  have ov := o24 v hv
  have cu := ck_le (pp := pp) (s := u) n
  have cv := ck_le (pp := pp) (s := v) n
  refine bl_X6_areAlike_0 hG _ _ S (sp_m_children (u := 12) hS hT (by decide) (by omega) ?_)
  refine bl_X6_areAlike_7 hG _ _ _ S ?_
  rw [m288, m288, nI_clamp (by omega), nI_clamp (by omega), (hT.1 u (by omega)).2, (hT.1 v hv).2]
  have no : ¬ Al n o pp lb u v → G 52 [some (.inr (21, 0)), some (.inl (nI (o u))), some (.inl (nI (o v))), some (.inl (nI (ck pp u n))), some (.inl (0 : Int32)), some (.inl (0 : Int32))] [] S 0 := fun hno => bl_X6_areAlike_52 hG _ _ _ _ _ S ⟨fun _ => ⟨Or.inl rfl, h0 hno⟩, fun _ => ⟨fun _ => ⟨Or.inl rfl, h0 hno⟩, fun z => absurd rfl z⟩⟩
  refine ⟨vp_in_nI (by omega) (by decide), vp_in_nI (by omega) (by decide), fun hl => ?_, fun hl => no (fun z => hl z.lab)⟩
  refine sp_m_children (u := 12) hS hT (by decide) hv ?_
  refine bl_X6_areAlike_39 hG _ _ _ _ _ S ?_
  refine pk_eq (ck pp u n) (ck pp v n) (fun hc => ?_) (fun hc => no (fun z => hc (z.num hL)))
  have key : ∀ k, k ≤ ck pp u n → (∀ a b, 0 < a → a < n → pp a = u → 0 < b → b < n → pp b = v → ck pp u a = ck pp v b → ck pp u a < k → Al n o pp lb a b) → G 52 [some (.inr (21, 0)), some (.inl (nI (o u))), some (.inl (nI (o v))), some (.inl (nI (ck pp u n))), some (.inl (1 : Int32)), some (.inl (nI k))] [] S 0 := by
    refine ind_up _ ?_ ?_
    · intro hk
      refine bl_X6_areAlike_52 hG _ _ _ _ _ S (pk_le (ck pp u n) (ck pp u n) (fun _ => ⟨Or.inr rfl, h1 (Al.up hL (by omega) hv hl hc (fun a b q1 q2 q3 q4 q5 q6 q7 => hk a b q1 q2 q3 q4 q5 q6 q7 ?_))⟩) (fun z => by omega))
      have := ck_mono (pp := pp) (s := u) (a := a + 1) n (by omega)
      rw [ck_yes q1 q3] at this
      omega
    · intro k hk ih hkk
      obtain ⟨a, a0, ha, hpa, hca⟩ := ck_kth n hk
      obtain ⟨b, b0, hb, hpb, hcb⟩ := ck_kth (pp := pp) (s := v) (k := k) n (by omega)
      have ua := hL.1 a a0 ha
      have vb := hL.1 b b0 hb
      have oa := o24 a ha
      have ob := o24 b hb
      refine bl_X6_areAlike_52 hG _ _ _ _ _ S (pk_le (ck pp u n) k (fun z => by omega) (fun _ => ⟨fun z => absurd z (by decide), fun _ => ?_⟩))
      have c1 := sp_m_childAt (Q := ab_back Q G 76 [some (.inr (21, 0)), some (.inl (nI (o u))), some (.inl (nI (o v))), some (.inl (nI (ck pp u n))), some (.inl (1 : Int32)), some (.inl (nI k))] [.inr (36, 0)] 0) (u := 12) hS hT (by decide) (show u < n by omega) a0 ha hpa
      rw [hca] at c1
      refine c1 ?_
      refine bl_X6_areAlike_76 hG _ _ _ _ _ _ S ⟨vp_in_nI (by omega) (by decide), ?_⟩
      rw [nI_clamp (by omega)]
      have c2 := sp_m_childAt (Q := ab_back Q G 90 [some (.inr (21, 0)), some (.inl (nI (o u))), some (.inl (nI (o v))), some (.inl (nI (ck pp u n))), some (.inl (1 : Int32)), some (.inl (nI k))] [.inr (36, 0), .inl (S 36 0 (o a))] 0) (u := 12) hS hT (by decide) hv b0 hb hpb
      rw [hcb] at c2
      refine c2 ?_
      refine bl_X6_areAlike_90 hG _ _ _ _ _ _ _ S ⟨vp_in_nI (by omega) (by decide), ?_⟩
      rw [nI_clamp (by omega), nI_1]
      refine ⟨fun e => ih (fun a' b' q1 q2 q3 q4 q5 q6 q7 q8 => ?_), fun e => ?_⟩
      · by_cases w : ck pp u a' = k
        · have e1 : a' = a := by
            rcases Nat.lt_trichotomy a' a with y | y | y
            · have := ck_inj q1 y q3; omega
            · exact y
            · have := ck_inj a0 y hpa; omega
          have e2 : b' = b := by
            rcases Nat.lt_trichotomy b' b with y | y | y
            · have := ck_inj q4 y q6; omega
            · exact y
            · have := ck_inj b0 y hpb; omega
          subst e1; subst e2
          exact (hA a' b' (by omega) ha (by omega) hb).mp e
        · exact hkk a' b' q1 q2 q3 q4 q5 q6 q7 (by omega)
      · have hno : ¬ Al n o pp lb u v := fun z => e ((hA a b (by omega) ha (by omega) hb).mpr (z.kid hL a0 ha hpa b0 hb hpb (by omega)))
        exact bl_X6_areAlike_52 hG _ _ _ _ _ S ⟨fun _ => ⟨Or.inl rfl, h0 hno⟩, fun _ => ⟨fun _ => ⟨Or.inl rfl, h0 hno⟩, fun z => absurd rfl z⟩⟩
  exact key 0 (by omega) (fun a b _ _ _ _ _ _ _ z => by omega)
