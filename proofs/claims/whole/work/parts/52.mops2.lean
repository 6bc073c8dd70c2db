/-! The model's delete, move, relabel. -/
theorem ich_at {S : ab_S} {u n : Nat} {o pp : Nat → Nat} {lb : Nat → Int32} (hS : Sh n o pp) (h : TM S u n o pp lb) {s i : Nat} (hs : s < n) (hi : i < n) : ich S u (o i) (nI (o s)) = decide (0 < i ∧ pp i = s) := by
  rw [h.kid hS hs _ (hS.2.2.2.1 i hi), gch_at n hi (fun j hj e => hS.2.2.2.2.1 j i hj hi e)]
/-- places behind unhang -/
theorem unh_pl {S S1 S' : ab_S} {u n s e : Nat} {o pp : Nat → Nat} {lb : Nat → Int32} (hS : Sh n o pp) (h : TM S u n o pp lb) (hs0 : 0 < s) (hs : s < n) (he : En n pp s e) (e1 : S1 = ab_su S 22 0 (24 * u + o s) 0) (hw : ∀ w, w < 24 → S' 25 0 (24 * u + w) = if ich S1 u w (S 24 0 (24 * u + o s)) = true ∧ ¬ S 25 0 (24 * u + w) < S 25 0 (24 * u + o s) then S 25 0 (24 * u + w) + -1 else S 25 0 (24 * u + w)) :
    (∀ i, i < n → (i < s ∨ e ≤ i) → S' 25 0 (24 * u + o i) = if 0 < i ∧ pp i = pp s ∧ ck pp (pp s) s ≤ ck pp (pp s) i then S 25 0 (24 * u + o i) + -1 else S 25 0 (24 * u + o i)) ∧ ∀ i, s < i → i < e → S' 25 0 (24 * u + o i) = S 25 0 (24 * u + o i) := by
  have hL := hS.2.2.2.2.2
  have hn := hS.2.1
  have hps := hL.1 s hs0 hs
  have a1 := he.1
  have a2 := he.2.1
  have hich : ∀ i, i < n → i ≠ s → ich S1 u (o i) (S 24 0 (24 * u + o s)) = decide (0 < i ∧ pp i = pp s) := fun i hi hne => by
    rw [(h.2.2.1 s hs0 hs).1, ← ich_at hS h (by omega) hi]
    unfold ich
    rw [e1, su_j (by have : o i ≠ o s := fun z => hne (hS.2.2.2.2.1 i s hi hs z); omega), su_o (Or.inl (by decide))]
  have b1 := ck_le (pp := pp) (s := pp s) s
  refine ⟨fun i hi hio => ?_, fun i i1 i2 => ?_⟩
  · rw [hw _ (hS.2.2.2.1 i hi), hich i hi (by omega), (h.2.2.1 s hs0 hs).2]
    by_cases i0 : 0 < i
    · rw [(h.2.2.1 i i0 hi).2]
      have b2 := ck_le (pp := pp) (s := pp i) i
      by_cases dd : pp i = pp s
      · rw [dd] at b2 ⊢
        have hlt := nI_ltI (a := ck pp (pp s) i) (b := ck pp (pp s) s) (by omega) (by omega)
        by_cases f : ck pp (pp s) s ≤ ck pp (pp s) i
        · rw [if_pos ⟨by simp [i0], fun z => by have := hlt.mp z; omega⟩, if_pos ⟨i0, rfl, f⟩]
        · rw [if_neg (fun z => z.2 (hlt.mpr (by omega))), if_neg (fun z => f z.2.2)]
      · rw [if_neg (fun z => by simp [dd] at z), if_neg (fun z => dd z.2.1)]
    · rw [if_neg (fun z => by simp [i0] at z), if_neg (fun z => i0 z.1)]
  · have hin := En_in hL he i1 i2
    rw [hw _ (hS.2.2.2.1 i (by omega)), hich i (by omega) (by omega), if_neg (fun z => by have y := of_decide_eq_true z.1; omega)]
theorem sp_m_delete {Q : ab_Po} {S : ab_S} {made : Nat} {d : sD} {x1 : Int32} (hk : Okd made d) (h : MTd S 12 d)
    (h0 : (∀ s, s < d.1 → x1 ≠ nI (d.2.1 s)) → Q (.inl (some 0)) (ab_su S 21 0 0 1)) (h1 : x1 = nI 0 → Q (.inl (some 0)) (ab_su S 21 0 0 2))
    (h2 : ∀ s e S', 0 < s → s < d.1 → x1 = nI (d.2.1 s) → En d.1 d.2.2.1 s e → OffT S S' → S' 21 0 0 = 0 → S' 21 0 5 = S 21 0 5 → MTd S' 12 (delD d s (e - s)) → Q (.inl (some (nI (e - s)))) S') : Sp_X6_delete [.inr (21, 0), .inl x1] S Q := by
  refine ⟨Nat.le_of_ble_eq_true rfl, fun G hG => ?_⟩
  have hS := hk.1
  have hn := hS.2.1
  have hL := hS.2.2.2.2.2
  have o24 := hS.2.2.2.1
  have inj := hS.2.2.2.2.1
  have bad : ∀ (S' : ab_S) (c : Int32) (A : Prop), S' = ab_su S 21 0 0 c → ¬ c ≤ 0 → Q (.inl (some 0)) (ab_su S 21 0 0 c) → (S' 21 0 0 ≤ 0 → A) ∧ (¬ S' 21 0 0 ≤ 0 → Q (.inl (some 0)) S') := fun S' c A e hc hq => by
    subst e
    rw [su_at]
    exact ⟨fun z => absurd z hc, fun _ => hq⟩
  refine bl_X6_delete_0 hG x1 S (sp_m_hasIn (u := 12) (by decide) hk h (fun z => ?_) (fun s hs e1 => ?_))
  · exact bl_X6_delete_8 hG x1 _ S ⟨fun _ S2 e2 => bad S2 1 _ e2 (by decide) (h0 z), fun y => absurd rfl y⟩
  refine bl_X6_delete_8 hG x1 _ S ⟨fun y => absurd y (by decide), fun _ => ⟨fun y S2 e2 => bad S2 2 _ e2 (by decide) (h1 y), fun y S1 e2 => ?_⟩⟩
  have s0 : 0 < s := by
    rcases Nat.eq_zero_or_pos s with w | w
    · exfalso; subst w; rw [hS.2.2.1] at e1; exact y e1
    · exact w
  obtain ⟨e, he⟩ := En_ex (pp := d.2.2.1) hs
  have he1 := he.1
  have he2 := he.2.1
  have hT1 : MTd S1 12 d := by rw [e2]; exact MTd.su h
  have of1 : OffT S S1 := by rw [e2]; exact OffT.su (by decide)
  have t1 : S1 21 0 0 = 0 := by rw [e2, su_at]
  have m1 : S1 21 0 5 = S 21 0 5 := by rw [e2, su_j (by decide)]
  rw [t1]
  refine ⟨fun _ => ?_, fun z => absurd (by decide) z⟩
  refine sp_m_walk (u := 12) hS hT1 (by decide) (fun S2 w1 w2 w3 => ?_)
  have hT2 : TM S2 12 d.1 d.2.1 d.2.2.1 d.2.2.2 := w1.tm hT1
  refine bl_X6_delete_42 hG x1 S2 ?_
  rw [e1]
  have hos := o24 s hs
  refine sp_m_unhang (u := 12) (by decide) hos (fun S3 S0 es a1 a2 a3 a4 a5 => ?_)
  obtain ⟨pl1, pl2⟩ := unh_pl hS hT2 s0 hs he es a5
  have p3 : S3 24 0 = S2 24 0 := a1 24 0 (Or.inl (by decide))
  have r34 : ∀ j, j < d.1 → S3 34 0 j = nI (d.2.1 j) := fun j hj => by rw [a1 34 0 (Or.inl (by decide))]; exact w3 j hj
  have m18 : S3 21 0 = S2 21 0 := a1 21 0 (Or.inl (by decide))
  refine bl_X6_delete_51 hG _ _ S3 ?_
  rw [m18, w2]
  -- counting
  have hp0 : ∀ S4 : ab_S, S4 24 0 = S2 24 0 → S4 24 0 (24 * 12) = -1 := fun S4 z => by rw [z]; exact hT2.2.1.1
  have hpp : ∀ S4 : ab_S, S4 24 0 = S2 24 0 → ∀ i, 0 < i → i < d.1 → S4 24 0 (24 * 12 + d.2.1 i) = nI (d.2.1 (d.2.2.1 i)) := fun S4 z i i0 hi => by rw [z]; exact (hT2.2.2.1 i i0 hi).1
  have loop2 : ∀ i, i ≤ d.1 → ∀ S4 : ab_S, (∀ a b, (a ≠ 22 ∨ b ≠ 0) → S4 a b = S3 a b) → (∀ j, (∀ i, i < d.1 → j ≠ 24 * 12 + d.2.1 i) → S4 22 0 j = S3 22 0 j) → (∀ j, j < d.1 → S4 22 0 (24 * 12 + d.2.1 j) = if s ≤ j ∧ j < e ∧ (j < i ∨ j = s) then 0 else 1) → G 93 [some (.inr (21, 0)), some (.inl (nI (d.2.1 s))), some (.inl (nI (e - s))), some (.inl (nI i)), none] [] S4 0 := by
    refine ind_up _ ?_ ?_
    · intro S4 k1 k2 k3
      refine bl_X6_delete_93 hG _ _ _ S4 ?_
      rw [k1 21 0 (Or.inl (by decide)), m18, w2]
      refine pk_le d.1 d.1 (fun _ => ?_) (fun z => by omega)
      have of4 : OffT S S4 := by
        refine of1.tr (w1.t.tr ⟨fun a b z => ?_, fun a j z1 z2 z3 => ?_, fun f z => ?_⟩)
        · rw [k1 a b (by omega), a1 a b (by omega)]
        · rcases (by omega : a = 22 ∨ a = 23 ∨ a = 24 ∨ a = 25) with q | q | q | q
          · rw [q, k2 j (fun i hi => by have := o24 i hi; omega), a2 j (by omega)]
          · rw [q, k1 23 0 (by omega), a1 23 0 (by omega)]
          · rw [q, k1 24 0 (by omega), a1 24 0 (by omega)]
          · rw [q, k1 25 0 (by omega), a4 j (by omega)]
        · rw [k1 21 0 (by omega), m18]
      refine h2 s e S4 s0 hs e1 he of4 ?_ ?_ ?_
      · rw [k1 21 0 (by omega), m18, w1.2 0 (by decide) (by decide)]; exact t1
      · rw [k1 21 0 (by omega), m18, w1.2 5 (by decide) (by decide)]; exact m1
      · show TM S4 12 (d.1 - (e - s)) (delO d.2.1 s (e - s)) (delP d.2.2.1 s (e - s)) d.2.2.2
        have hpf := Pf_del (pa' := fun w => S4 24 0 (24 * 12 + w)) (pl' := fun w => S4 25 0 (24 * 12 + w)) hS s0 he hT2.pf (fun i hi hio => by show S4 24 0 _ = _; rw [k1 24 0 (by omega), p3]) (fun i hi hio => by show S4 25 0 _ = _; rw [k1 25 0 (by omega)]; exact pl1 i hi hio)
        refine ⟨fun i hi => ?_, ⟨hpf.1, hpf.2.1⟩, hpf.2.2, fun w hw hno => ?_⟩
        · obtain ⟨j, hj, hjo, rfl, -⟩ := dn_or (s := s) hi
          rw [delO_dn hjo, k3 j hj, if_neg (by omega), k1 23 0 (by omega), a1 23 0 (by omega)]
          exact ⟨rfl, (hT2.1 j hj).2⟩
        · by_cases q : ∃ j, j < d.1 ∧ d.2.1 j = w
          · obtain ⟨j, hj, rfl⟩ := q
            rw [k3 j hj]
            by_cases c : s ≤ j ∧ j < e
            · rw [if_pos (by omega)]
            · exfalso
              exact hno (dnP s (e - s) j) (by unfold dnP; split <;> omega) (delO_dn (by omega))
          · rw [k2 _ (fun i hi z => q ⟨i, hi, by omega⟩), a2 _ (fun z => q ⟨s, hs, by omega⟩)]
            exact hT2.2.2.2 w hw (fun i hi z => q ⟨i, hi, z⟩)
    · intro i hi ih S4 k1 k2 k3
      have oi := o24 i hi
      refine bl_X6_delete_93 hG _ _ _ S4 ?_
      rw [k1 21 0 (Or.inl (by decide)), m18, w2, k1 34 0 (Or.inl (by decide)), nI_clamp (show i < 2 ^ 31 by omega), r34 i hi, m288, nI_clamp (by omega), nar0, nI_1]
      refine pk_le d.1 i (fun z => by omega) (fun _ => ⟨vp_in_nI (by omega) (by decide), vp_in_nI (by omega) (by decide), ?_⟩)
      have go : ∀ (S5 : ab_S) (v : Int32), S5 = ab_su S4 22 0 (24 * 12 + d.2.1 i) v → (v = if s ≤ i ∧ i < e then 0 else 1) → G 93 [some (.inr (21, 0)), some (.inl (nI (d.2.1 s))), some (.inl (nI (e - s))), some (.inl (nI (i + 1))), none] [] S5 0 := by
        intro S5 v e5 hv
        refine ih S5 (fun a b z => by rw [e5, su_o z]; exact k1 a b z) (fun j hj => by rw [e5, su_j (hj i hi)]; exact k2 j hj) (fun j hj => ?_)
        by_cases q : j = i
        · subst q
          rw [e5, su_at, hv]
          by_cases c : s ≤ j ∧ j < e
          · rw [if_pos c, if_pos (by omega)]
          · rw [if_neg c, if_neg (by omega)]
        · rw [e5, su_j (by have : d.2.1 j ≠ d.2.1 i := fun z => q (inj j i hj hi z); omega), k3 j hj]
          by_cases c : s ≤ j ∧ j < e ∧ (j < i ∨ j = s)
          · rw [if_pos c, if_pos (by omega)]
          · rw [if_neg c, if_neg (by omega)]
      rw [k3 i hi]
      by_cases c : s ≤ i ∧ i < e ∧ (i < i ∨ i = s)
      · rw [if_pos c]
        exact ⟨fun _ => ⟨vp_in_nI (by omega) (by decide), fun S5 e5 => go S5 0 e5 (by rw [if_pos (by omega)])⟩, fun z => absurd rfl z⟩
      · rw [if_neg c]
        refine ⟨fun z => absurd z (by decide), fun _ => ?_⟩
        have r24 : S4 24 0 = S2 24 0 := by rw [k1 24 0 (Or.inl (by decide)), p3]
        refine sp_m_isAt (u := 12) hS (hp0 S4 r24) (hpp S4 r24) (by decide) hi hs he ?_
        refine bl_X6_delete_142 hG _ _ _ _ _ _ S4 ?_
        rw [nI_clamp (by omega), nar0, nar1, nI_1]
        by_cases f : s ≤ i ∧ i < e
        · rw [if_pos f]
          exact ⟨fun z => absurd z (by decide), fun _ => ⟨vp_in_nI (by omega) (by decide), fun S5 e5 => go S5 0 e5 (by rw [if_pos f])⟩⟩
        · rw [if_neg f]
          exact ⟨fun _ => ⟨vp_in_nI (by omega) (by decide), fun S5 e5 => go S5 1 e5 (by rw [if_neg f])⟩, fun z => absurd rfl z⟩
  have loop1 : ∀ k, k ≤ d.1 → G 58 [some (.inr (21, 0)), some (.inl (nI (d.2.1 s))), some (.inl (nI (e - if k < s then s else k))), some (.inl (nI k - 1)), none] [] S3 0 := by
    intro k
    induction k with
    | zero =>
      intro _
      refine bl_X6_delete_58 hG _ _ _ S3 ⟨fun _ => ?_, fun z => absurd (by decide) z⟩
      rw [if_pos s0]
      refine loop2 0 (by omega) S3 (fun _ _ _ => rfl) (fun _ _ => rfl) (fun j hj => ?_)
      by_cases c : j = s
      · subst c; rw [if_pos (by omega)]; exact a3
      · rw [if_neg (by omega), a2 _ (by have : d.2.1 j ≠ d.2.1 s := fun z => c (inj j s hj hs z); omega)]
        exact (hT2.1 j hj).1
    | succ k ih =>
      intro hk2
      refine bl_X6_delete_58 hG _ _ _ S3 ?_
      rw [nI_pred, nI_clamp (show k < 2 ^ 31 by omega), r34 k (by omega)]
      refine ⟨fun z => absurd z (nI_pos (by omega)), fun _ => ⟨vp_in_nI (by omega) (by decide), ?_⟩⟩
      refine sp_m_isAt (u := 12) hS (hp0 S3 p3) (hpp S3 p3) (by decide) (by omega) hs he ?_
      refine bl_X6_delete_79 hG _ _ _ _ _ S3 ?_
      rw [i_sub1, nI_1]
      have hh := ih (by omega)
      by_cases f : s ≤ k ∧ k < e
      · rw [if_pos f]
        refine ⟨fun z => absurd z (by decide), fun _ => ?_⟩
        rw [if_neg (by omega)] at hh ⊢
        rw [show e - (k + 1) + 1 = e - k by omega]
        exact hh
      · rw [if_neg f]
        refine ⟨fun _ => ?_, fun z => absurd rfl z⟩
        have : (e - if k + 1 < s then s else k + 1) = e - if k < s then s else k := by split <;> split <;> omega
        rw [this]
        exact hh
  have := loop1 d.1 (Nat.le_refl _)
  rw [if_neg (by omega), show e - d.1 = 0 by omega] at this
  exact this
/-- the model's move -/
theorem TM_mv {S S1 S2 S3 : ab_S} {n s e q k sl : Nat} {o pp : Nat → Nat} {lb : Nat → Int32} (hS : Sh n o pp) (h : TM S 12 n o pp lb) (hs0 : 0 < s) (hs : s < n) (he : En n pp s e) (hq : q < n) (hqo : q < s ∨ e ≤ q) (hk : k ≤ ck (delP pp s (e - s)) (dnP s (e - s) q) (n - (e - s))) (hsl : Slt (n - (e - s)) (delP pp s (e - s)) (dnP s (e - s) q) k sl)
    (es : S1 = ab_su S 22 0 (24 * 12 + o s) 0) (a1 : ∀ a c, ((a ≠ 22 ∧ a ≠ 25) ∨ c ≠ 0) → S2 a c = S a c) (a2 : ∀ j, j ≠ 24 * 12 + o s → S2 22 0 j = S 22 0 j) (a5 : ∀ w, w < 24 → S2 25 0 (24 * 12 + w) = if ich S1 12 w (S 24 0 (24 * 12 + o s)) = true ∧ ¬ S 25 0 (24 * 12 + w) < S 25 0 (24 * 12 + o s) then S 25 0 (24 * 12 + w) + -1 else S 25 0 (24 * 12 + w)) (a3 : S2 22 0 (24 * 12 + o s) = 0)
    (b1 : ∀ a c, ((a ≠ 22 ∧ a ≠ 24 ∧ a ≠ 25) ∨ c ≠ 0) → S3 a c = S2 a c) (b2 : ∀ j, j ≠ 24 * 12 + o s → S3 22 0 j = S2 22 0 j ∧ S3 24 0 j = S2 24 0 j) (b3 : S3 22 0 (24 * 12 + o s) = 1) (b4 : S3 24 0 (24 * 12 + o s) = nI (o q)) (b5 : S3 25 0 (24 * 12 + o s) = nI k) (b7 : ∀ w, w < 24 → w ≠ o s → S3 25 0 (24 * 12 + w) = if ich S2 12 w (nI (o q)) = true ∧ ¬ S2 25 0 (24 * 12 + w) < nI k then S2 25 0 (24 * 12 + w) + 1 else S2 25 0 (24 * 12 + w)) :
    TM S3 12 n (mvO o s (e - s) sl) (mvP pp s (e - s) sl (dnP s (e - s) q)) lb := by
  have hL := hS.2.2.2.2.2
  have hn := hS.2.1
  have inj := hS.2.2.2.2.1
  have o24 := hS.2.2.2.1
  have e1 := he.1
  have e2 := he.2.1
  obtain ⟨pl1, pl2⟩ := unh_pl hS h hs0 hs he es a5
  have p2 : S2 24 0 = S 24 0 := a1 24 0 (Or.inl (by decide))
  have hS1 := Sh_del hS hs0 he
  have hslv := hsl.slv hS1.2.2.2.2.2
  have hckb := ck_le (pp := delP pp s (e - s)) (s := dnP s (e - s) q) (n - (e - s))
  have hdq : delO o s (e - s) (dnP s (e - s) q) = o q := delO_dn (by omega)
  have hq' : dnP s (e - s) q < n - (e - s) := by unfold dnP; split <;> omega
  have hpf1 := Pf_del (pa' := fun w => S2 24 0 (24 * 12 + w)) (pl' := fun w => S2 25 0 (24 * 12 + w)) hS hs0 he h.pf (fun i hi hio => by show S2 24 0 _ = _; rw [p2]) (fun i hi hio => pl1 i hi hio)
  have hno : ∀ i, i < n → i ≠ s → o i ≠ o s := fun i hi hne z => hne (inj i s hi hs z)
  have dno : ∀ i, i < n - (e - s) → ∃ j, j < n ∧ (j < s ∨ e ≤ j) ∧ i = dnP s (e - s) j ∧ delO o s (e - s) i = o j ∧ (0 < i → 0 < j) := fun i hi => by
    obtain ⟨j, hj, hjo, ej, hj0⟩ := dn_or (s := s) hi
    exact ⟨j, hj, by omega, ej, by rw [ej]; exact delO_dn hjo, fun z => hj0 hs0 z⟩
  have hpf2 := Pf_ins (pa' := fun w => S3 24 0 (24 * 12 + w)) (pl' := fun w => S3 25 0 (24 * 12 + w)) (c := fun i => o (s + i)) (cp := fun i => pp (s + i) - s) hS1 (Lp_part hL he) (by omega) (by omega) hk hsl hpf1
    (fun i i0 hi => by
      have hin := En_in hL he (i := s + i) (by omega) (by omega)
      have hne := hno (s + i) (by omega) (by omega)
      have hb := o24 (s + i) (by omega)
      have o2 : S2 22 0 (24 * 12 + o (s + i)) = 1 := by rw [a2 _ (by omega)]; exact (h.1 _ (by omega)).1
      have pi := (h.2.2.1 (s + i) (by omega) (by omega)).1
      refine ⟨?_, ?_⟩
      · show S3 24 0 (24 * 12 + o (s + i)) = nI (o (s + (pp (s + i) - s)))
        rw [(b2 _ (by omega)).2, p2, pi, show s + (pp (s + i) - s) = pp (s + i) by omega]
      · show S3 25 0 (24 * 12 + o (s + i)) = nI (ck (fun i => pp (s + i) - s) (pp (s + i) - s) i)
        rw [b7 _ hb hne, if_neg (fun z => by
          have y := of_decide_eq_true z.1
          rw [p2, pi] at y
          have hb1 := o24 (pp (s + i)) (by omega)
          have hb2 := o24 q hq
          have := inj _ _ (by omega) hq ((nI_eq (by omega) (by omega)).mp y.2)
          omega), pl2 (s + i) (by omega) (by omega), (h.2.2.1 (s + i) (by omega) (by omega)).2, ck_part hL he i i0 (by omega), show s + (pp (s + i) - s) = pp (s + i) by omega])
    (fun i hi => by
      obtain ⟨j, hj, hjo, -, ej, -⟩ := dno i hi
      show S3 24 0 (24 * 12 + delO o s (e - s) i) = S2 24 0 (24 * 12 + delO o s (e - s) i)
      rw [ej]
      exact (b2 _ (by have := hno j hj (by omega); omega)).2) (by show S3 24 0 (24 * 12 + o (s + 0)) = _; rw [Nat.add_zero, hdq]; exact b4) (by show S3 25 0 (24 * 12 + o (s + 0)) = _; rw [Nat.add_zero]; exact b5)
    (fun i hi => by
      obtain ⟨j, hj, hjo, -, ej, hj0⟩ := dno i hi
      have hne := hno j hj (by omega)
      have hb := o24 j hj
      show S3 25 0 (24 * 12 + delO o s (e - s) i) = if 0 < i ∧ delP pp s (e - s) i = dnP s (e - s) q ∧ k ≤ ck (delP pp s (e - s)) (dnP s (e - s) q) i then S2 25 0 (24 * 12 + delO o s (e - s) i) + 1 else S2 25 0 (24 * 12 + delO o s (e - s) i)
      rw [ej, b7 _ hb hne]
      have o2 : S2 22 0 (24 * 12 + o j) = 1 := by rw [a2 _ (by omega)]; exact (h.1 _ hj).1
      by_cases i0 : 0 < i
      · have z := hpf1.2.2 i i0 hi
        rw [ej] at z
        have zp : S2 24 0 (24 * 12 + o j) = nI (delO o s (e - s) (delP pp s (e - s) i)) := z.1
        have zl : S2 25 0 (24 * 12 + o j) = nI (ck (delP pp s (e - s)) (delP pp s (e - s) i) i) := z.2
        have hdp := hS1.2.2.2.2.2.1 i i0 hi
        have c1 := hS1.2.2.2.1 (delP pp s (e - s) i) (by omega)
        have c2 := ck_le (pp := delP pp s (e - s)) (s := delP pp s (e - s) i) i
        have hb2 := o24 q hq
        by_cases dd : delP pp s (e - s) i = dnP s (e - s) q
        · have hi1 : ich S2 12 (o j) (nI (o q)) = true := by unfold ich; rw [o2, zp, dd, hdq]; simp
          rw [dd] at zl c2
          have hlt := nI_ltI (a := ck (delP pp s (e - s)) (dnP s (e - s) q) i) (b := k) (by omega) (by omega)
          by_cases f : k ≤ ck (delP pp s (e - s)) (dnP s (e - s) q) i
          · rw [if_pos ⟨hi1, fun y => by rw [zl] at y; have := hlt.mp y; omega⟩, if_pos ⟨i0, dd, f⟩]
          · rw [if_neg (fun y => y.2 (by rw [zl]; exact hlt.mpr (by omega))), if_neg (fun y => f y.2.2)]
        · rw [if_neg (fun y => dd (by
            have w := of_decide_eq_true y.1
            rw [zp, ← hdq] at w
            have c3 := hS1.2.2.2.1 _ hq'
            exact hS1.2.2.2.2.1 _ _ (by omega) hq' ((nI_eq (by omega) (by omega)).mp w.2))), if_neg (fun y => dd y.2.1)]
      · have e0 : i = 0 := by omega
        have j0 : o j = 0 := by rw [← ej, e0]; exact hS1.2.2.1
        rw [if_neg (fun y => by
          have w := (of_decide_eq_true y.1).2
          rw [j0, p2, Nat.add_zero, h.2.1.1] at w
          exact nu_ne (i := o q) (by have := o24 q hq; omega) (by decide) w.symm), if_neg (fun y => i0 y.1)])
  rw [show n - (e - s) + (e - s) = n by omega] at hpf2
  refine ⟨fun i hi => ?_, ⟨hpf2.1, hpf2.2.1⟩, hpf2.2.2, fun w hw hnw => ?_⟩
  · have all : ∀ j, j < n → S3 22 0 (24 * 12 + o j) = 1 ∧ S3 23 0 (24 * 12 + o j) = lb (o j) := fun j hj => by
      refine ⟨?_, by rw [b1 23 0 (by omega), a1 23 0 (by omega)]; exact (h.1 j hj).2⟩
      by_cases c : j = s
      · rw [c]; exact b3
      · have := hno j hj c
        rw [(b2 _ (by omega)).1, a2 _ (by omega)]; exact (h.1 j hj).1
    unfold mvO
    by_cases z : sl ≤ i ∧ i < sl + (e - s)
    · rw [insO_in z.1 z.2]; exact all _ (by omega)
    · obtain ⟨j, hj, rfl, -⟩ := up_or (n := n - (e - s)) hslv.2.1 (by omega) z
      rw [insO_up]
      obtain ⟨j2, hj2, -, -, ej, -⟩ := dno j hj
      rw [ej]; exact all j2 hj2
  · have hno2 : ∀ i, i < n → o i ≠ w := by
      intro i hi z
      by_cases c1 : s ≤ i ∧ i < e
      · exact hnw (sl + (i - s)) (by have := hslv.2.1; omega) (by unfold mvO; rw [insO_in (by omega) (by omega), show s + (sl + (i - s) - sl) = i by omega]; exact z)
      · refine hnw (upP sl (e - s) (dnP s (e - s) i)) ?_ (by unfold mvO; rw [insO_up, delO_dn (by omega)]; exact z)
        unfold upP dnP
        split <;> split <;> omega
    have := hno2 s hs
    rw [(b2 _ (by omega)).1, a2 _ (by omega)]
    exact h.2.2.2 w hw hno2
