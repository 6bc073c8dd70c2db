/-! The model's path; count and find. -/
theorem lb56 {l : Int32} : (5 : Int32) < l ↔ (6 : Int32) ≤ l := by
  rw [Int32.lt_iff_toInt_lt, Int32.le_iff_toInt_le, show (5 : Int32).toInt = 5 by decide, show (6 : Int32).toInt = 6 by decide]
  omega
theorem ax_m (p : Int32) (k : Nat) : (p >>> (((5 : Int32) * nI k) &&& 31)) &&& 3 = axOf p k := by
  unfold axOf
  rw [show (5 : Int32) * nI k = nI k * 5 from Int32.mul_comm _ _]
theorem b_7 : ∀ i, i < 32 → bt 7 i = decide (i < 3) := by decide +kernel
theorem lb_m (p : Int32) {k : Nat} (hk : k < 6) : (p >>> ((((5 : Int32) * nI k) + (2 : Int32)) &&& 31)) &&& 7 = lbOf p k := by
  unfold lbOf
  rw [show (5 : Int32) * nI k + 2 = nI (5 * k + 2) by rw [show (5 : Int32) = nI 5 from rfl, pk_mul, show (2 : Int32) = nI 2 from rfl, nI_add], show nI k * (5 : Int32) = nI (5 * k) by rw [show (5 : Int32) = nI 5 from rfl, pk_mul, Nat.mul_comm]]
  apply b_ext
  intro i hi
  rw [b_and, b_and, b_7 i hi]
  by_cases c : i < 3
  · rw [b_sshr _ (by omega) _ hi, show (2 : Int32) = nI 2 from rfl, b_sshr 2 (by omega) _ hi, if_pos (by omega), if_pos (by omega), b_sshr _ (by omega) _ (by omega), if_pos (by omega)]
    rw [show 5 * k + 2 + i = 5 * k + (2 + i) by omega]
  · rw [decide_eq_false c, Bool.and_false, Bool.and_false]
theorem sp_m_isFound {Q : ab_Po} {S : ab_S} {n i : Nat} {o pp : Nat → Nat} {lb : Nat → Int32} {x ax : Int32} {P : Nat → Prop} (hS : Sh n o pp) (hT : TM S 12 n o pp lb) (hi : i < n) (hx : Mk n o x P) (h1 : nxA n pp ax P i → Q (.inl (some 1)) S) (h0 : ¬ nxA n pp ax P i → Q (.inl (some 0)) S) : Sp_X6_isFound [.inr (21, 0), .inl (nI (o i)), .inl ax, .inl x] S Q := by
  refine ⟨Nat.le_of_ble_eq_true rfl, fun G hG => ?_⟩
  have hn := hS.2.1
  have hL := hS.2.2.2.2.2
  have o24 := hS.2.2.2.1
  have oi := o24 i hi
  refine bl_X6_isFound_0 hG _ _ _ S ?_
  rw [m288, nI_clamp (by omega)]
  rcases Nat.eq_zero_or_pos i with i0 | i0
  · subst i0
    rw [hS.2.2.1, show S 24 0 (24 * 12 + 0) = -1 from hT.2.1.1]
    exact ⟨vp_in_nI (by omega) (by decide), fun z => absurd z (by decide), fun _ => h0 (fun z => by have := z.1; omega)⟩
  have hp := hL.1 i i0 hi
  have op := o24 (pp i) (by omega)
  rw [(hT.2.2.1 i i0 hi).1]
  refine ⟨vp_in_nI (by omega) (by decide), fun _ => ⟨fun e => ?_, fun e => ?_⟩, fun z => absurd (nI_pos' (by omega)) z⟩
  · rw [bv _ (by omega)]
    by_cases c : bt x (o (pp i)) = true
    · rw [if_pos c]
      exact ⟨fun _ => h1 ⟨i0, Or.inl ⟨e, (hx.at hS (by omega)).mp c⟩⟩, fun z => absurd rfl z⟩
    · rw [if_neg c]
      refine ⟨fun z => absurd z (by decide), fun _ => h0 (fun z => ?_)⟩
      rcases z.2 with w | w | w
      · exact c ((hx.at hS (by omega)).mpr w.2)
      · exact w.1 e
      · exact w.1 e
  -- the loop over all nodes
  have cond : ∀ j, j < n → ((P j ∧ ((ax = 2 ∧ An n pp j i) ∨ (¬ ax = 2 ∧ 0 < j ∧ j < i ∧ pp j = pp i)))) → nxA n pp ax P i := fun j hj hc => by
    rcases hc with ⟨a, ⟨b, c⟩ | ⟨b, c, d, f⟩⟩
    · exact ⟨i0, Or.inr (Or.inl ⟨e, b, j, a, c⟩)⟩
    · exact ⟨i0, Or.inr (Or.inr ⟨e, b, j, c, d, f, a⟩)⟩
  have key : ∀ u, u ≤ 24 → ∀ fl : Int32, ((fl = 1 ∧ nxA n pp ax P i) ∨ (fl = 0 ∧ ∀ j, j < n → o j < u → ¬ (P j ∧ ((ax = 2 ∧ An n pp j i) ∨ (¬ ax = 2 ∧ 0 < j ∧ j < i ∧ pp j = pp i))))) → G 46 [some (.inr (21, 0)), some (.inl (nI (o i))), some (.inl ax), some (.inl x), some (.inl (nI (o (pp i)))), some (.inl fl), some (.inl (nI u)), none] [] S 0 := by
    refine ind_up _ ?_ ?_
    · intro fl hf
      refine bl_X6_isFound_46 hG _ _ _ _ _ _ S ⟨fun _ => ?_, fun z => absurd (by decide) z⟩
      rcases hf with ⟨rfl, hf⟩ | ⟨rfl, hf⟩
      · exact ⟨Or.inr rfl, h1 hf⟩
      · refine ⟨Or.inl rfl, h0 (fun z => ?_)⟩
        rcases z.2 with w | ⟨_, w1, j, w2, w3⟩ | ⟨_, w1, j, w2, w3, w4, w5⟩
        · exact e w.1
        · have := w3.1
          exact hf j (by omega) (o24 j (by omega)) ⟨w2, Or.inl ⟨w1, w3⟩⟩
        · exact hf j (by omega) (o24 j (by omega)) ⟨w5, Or.inr ⟨w1, w2, w3, w4⟩⟩
    · intro u hu ih fl hf
      refine bl_X6_isFound_46 hG _ _ _ _ _ _ S ⟨fun z => absurd z (nI_ge (b := 24) hu (by decide)), fun _ => ?_⟩
      rw [bv _ (show u < 32 by omega), nI_1]
      rcases hf with ⟨rfl, hf⟩ | ⟨rfl, hf⟩
      · have go := ih 1 (Or.inl ⟨rfl, hf⟩)
        by_cases c : bt x u = true
        · rw [if_pos c]
          exact ⟨fun _ => ⟨fun z => absurd z (by decide), fun _ => go⟩, fun z => absurd rfl z⟩
        · rw [if_neg c]
          exact ⟨fun z => absurd z (by decide), fun _ => ⟨fun z => absurd z (by decide), fun _ => go⟩⟩
      · by_cases c : bt x u = true
        · rw [if_pos c]
          obtain ⟨j, hj, ej, hP⟩ := (hx u (by omega)).mp c
          subst ej
          have go0 : ¬ ((ax = 2 ∧ An n pp j i) ∨ (¬ ax = 2 ∧ 0 < j ∧ j < i ∧ pp j = pp i)) → G 46 [some (.inr (21, 0)), some (.inl (nI (o i))), some (.inl ax), some (.inl x), some (.inl (nI (o (pp i)))), some (.inl 0), some (.inl (nI (o j + 1))), none] [] S 0 := fun hno => ih 0 (Or.inr ⟨rfl, fun k hk hku hc => by
            by_cases q : o k = o j
            · have := hS.2.2.2.2.1 k j hk hj q
              subst this
              exact hno hc.2
            · exact hf k hk (by omega) hc⟩)
          have go1 : ((ax = 2 ∧ An n pp j i) ∨ (¬ ax = 2 ∧ 0 < j ∧ j < i ∧ pp j = pp i)) → G 46 [some (.inr (21, 0)), some (.inl (nI (o i))), some (.inl ax), some (.inl x), some (.inl (nI (o (pp i)))), some (.inl 1), some (.inl (nI (o j + 1))), none] [] S 0 := fun hc => ih 1 (Or.inl ⟨rfl, cond j hj ⟨hP, hc⟩⟩)
          refine ⟨fun _ => ⟨fun _ => ⟨fun z => absurd z (by decide), fun _ => ⟨fun a2 => ⟨fun q => go0 ?_, fun q => ?_⟩, fun a2 => ?_⟩⟩, fun z => absurd rfl z⟩, fun z => absurd rfl z⟩
          · have := hS.2.2.2.2.1 j i hj hi ((nI_eq (by omega) (by omega)).mp q)
            rintro (w | w)
            · have := w.2.1; omega
            · omega
          · obtain ⟨e', he⟩ := En_ex (pp := pp) hj
            refine sp_m_isAt (u := 12) hS hT.2.1.1 (fun i i0 hi => (hT.2.2.1 i i0 hi).1) (by decide) hi hj he ?_
            refine bl_X6_isFound_100 hG _ _ _ _ _ _ _ _ S ?_
            rw [nI_1]
            by_cases w : j ≤ i ∧ i < e'
            · rw [if_pos w]
              refine ⟨fun z => absurd z (by decide), fun _ => go1 (Or.inl ⟨a2, ?_, e', he, w.2⟩)⟩
              rcases Nat.lt_or_ge j i with y | y
              · exact y
              · exact absurd (by rw [show j = i by omega]) q
            · rw [if_neg w]
              refine ⟨fun _ => go0 ?_, fun z => absurd rfl z⟩
              rintro (y | y)
              · obtain ⟨y1, e2, y2, y3⟩ := y.2
                have := En_one he y2
                omega
              · exact y.1 a2
          · rw [m288, m288, nI_clamp (by omega), nI_clamp (by omega)]
            refine ⟨vp_in_nI (by omega) (by decide), fun q => ?_, fun q => go0 ?_⟩
            · rcases Nat.eq_zero_or_pos j with j0 | j0
              · exfalso
                subst j0
                rw [hS.2.2.1, show S 24 0 (24 * 12 + 0) = -1 from hT.2.1.1] at q
                exact nu_ne (by omega) (by decide) q.symm
              have hpj := hL.1 j j0 hj
              have opj := o24 (pp j) (by omega)
              rw [(hT.2.2.1 j j0 hj).1] at q
              have ep := hS.2.2.2.2.1 (pp j) (pp i) (by omega) (by omega) ((nI_eq (by omega) (by omega)).mp q)
              have cj := ck_le (pp := pp) (s := pp j) j
              have ci := ck_le (pp := pp) (s := pp i) i
              refine ⟨vp_in_nI (by omega) (by decide), vp_in_nI (by omega) (by decide), ?_⟩
              rw [(hT.2.2.1 j j0 hj).2, (hT.2.2.1 i i0 hi).2]
              refine pk_le _ _ (fun w => go0 ?_) (fun w => go1 (Or.inr ⟨a2, j0, ?_, ep⟩))
              · rintro (y | y)
                · exact a2 y.1
                · have := ck_inj j0 y.2.2.1 rfl (pp := pp)
                  rw [ep] at this w
                  omega
              · rcases Nat.lt_trichotomy j i with y | y | y
                · exact y
                · subst y; omega
                · have := ck_inj i0 y rfl (pp := pp)
                  rw [ep] at w
                  omega
            · rintro (y | y)
              · exact a2 y.1
              · rw [(hT.2.2.1 j y.2.1 hj).1, y.2.2.2] at q
                exact q rfl
        · rw [if_neg c]
          refine ⟨fun z => absurd z (by decide), fun _ => ⟨fun _ => ⟨fun _ => ih 0 (Or.inr ⟨rfl, fun k hk hku hc => ?_⟩), fun z => absurd rfl z⟩, fun z => absurd rfl z⟩⟩
          by_cases q : o k = u
          · exact c ((hx u (by omega)).mpr ⟨k, hk, q, hc.1⟩)
          · exact hf k hk (by omega) hc
  exact key 0 (by omega) 0 (Or.inr ⟨rfl, fun j _ z => by omega⟩)
theorem sp_m_found {Q : ab_Po} {S : ab_S} {n : Nat} {o pp : Nat → Nat} {lb : Nat → Int32} {p : Int32} (hS : Sh n o pp) (hT : TM S 12 n o pp lb) (hQ : ∀ k y, k ≤ 6 → (∀ j, j < k → ¬ axOf p j = 0) → (k = 6 ∨ axOf p k = 0) → Mk n o y (PS n o pp lb p k) → Q (.inl (some y)) S) : Sp_X6_found [.inr (21, 0), .inl p] S Q := by
  refine ⟨Nat.le_of_ble_eq_true rfl, fun G hG => ?_⟩
  have o24 := hS.2.2.2.1
  refine bl_X6_found_0 hG _ S ?_
  have key : ∀ k, k ≤ 6 → ∀ y, (∀ j, j < k → ¬ axOf p j = 0) → Mk n o y (PS n o pp lb p k) → G 4 [some (.inr (21, 0)), some (.inl p), some (.inl y), some (.inl (nI k)), none, none, none, none, none] [] S 0 := by
    refine ind_up _ ?_ ?_
    · intro y hb hy
      exact bl_X6_found_4 hG _ _ _ S ⟨fun _ => hQ 6 y (by omega) hb (Or.inl rfl) hy, fun z => absurd (by decide) z⟩
    · intro k hk ih y hb hy
      refine bl_X6_found_4 hG _ _ _ S ?_
      rw [ax_m, lb_m p hk]
      refine ⟨fun z => absurd z (nI_ge (b := 6) hk (by decide)), fun _ => ⟨fun h0 => hQ k y (by omega) hb (Or.inr h0) hy, fun h0 => ?_⟩⟩
      have inner : ∀ v, v ≤ 24 → ∀ y', Mk n o y' (fun i => o i < v ∧ PS n o pp lb p (k + 1) i) → G 47 [some (.inr (21, 0)), some (.inl p), some (.inl y), some (.inl (nI k)), some (.inl (axOf p k)), some (.inl (lbOf p k)), some (.inl y'), some (.inl (nI v)), none] [] S 0 := by
        refine ind_up _ ?_ ?_
        · intro y' hy'
          refine bl_X6_found_47 hG _ _ _ _ _ _ _ S ?_
          rw [nI_1, nI_1]
          refine ⟨fun _ => ih y' (fun j hj => ?_) (hy'.cg (fun i hi => ⟨fun z => z.2, fun z => ⟨o24 i hi, z⟩⟩)), fun z => absurd (by decide) z⟩
          by_cases q : j = k
          · subst q; exact h0
          · exact hb j (by omega)
        · intro v hv ihv y' hy'
          have skip : (∀ i, i < n → o i = v → ¬ PS n o pp lb p (k + 1) i) → G 47 [some (.inr (21, 0)), some (.inl p), some (.inl y), some (.inl (nI k)), some (.inl (axOf p k)), some (.inl (lbOf p k)), some (.inl y'), some (.inl (nI (v + 1))), none] [] S 0 := fun hno => ihv y' (hy'.cg (fun i hi => ⟨fun z => ⟨by omega, z.2⟩, fun z => by
            by_cases q : o i = v
            · exact absurd z.2 (hno i hi q)
            · exact ⟨by omega, z.2⟩⟩))
          refine bl_X6_found_47 hG _ _ _ _ _ _ _ S ?_
          rw [nI_1, nI_1, m288, nI_clamp (by omega)]
          refine ⟨fun z => absurd z (nI_ge (b := 24) hv (by decide)), fun _ => ⟨vp_in_nI (by omega) (by decide), fun e0 => ?_, fun e0 => ?_⟩⟩
          · refine ⟨fun _ => skip (fun i hi q _ => ?_), fun z => absurd rfl z⟩
            subst q
            rw [(hT.1 i hi).1] at e0
            exact absurd e0 (by decide)
          · have hex : ∃ i, i < n ∧ o i = v := by
              apply Classical.byContradiction
              intro hno
              exact e0 (hT.2.2.2 v hv (fun i hi q => hno ⟨i, hi, q⟩))
            obtain ⟨i, hi, rfl⟩ := hex
            have fnd : ((6 : Int32) ≤ lbOf p k ∨ lb (o i) = lbOf p k) → Sp_X6_isFound [.inr (21, 0), .inl (nI (o i)), .inl (axOf p k), .inl y] S (ab_back Q G 111 [some (.inr (21, 0)), some (.inl p), some (.inl y), some (.inl (nI k)), some (.inl (axOf p k)), some (.inl (lbOf p k)), some (.inl y'), some (.inl (nI (o i))), some (.inl (1 : Int32))] [] 0) := fun hl => by
              refine sp_m_isFound hS hT hi hy (fun hA => ?_) (fun hA => ?_)
              · refine bl_X6_found_111 hG _ _ _ _ _ _ _ _ _ S ⟨fun z => absurd z (by decide), fun _ => ?_⟩
                rw [nI_1]
                refine ihv _ ((hy'.add hS hi).cg (fun q hq => ⟨fun z => ?_, fun z => ?_⟩))
                · rcases z with z | z
                  · exact ⟨by omega, z.2⟩
                  · subst z; exact ⟨by omega, hA, hl⟩
                · by_cases w : o q = o i
                  · exact Or.inr (hS.2.2.2.2.1 q i hq hi w)
                  · exact Or.inl ⟨by omega, z.2⟩
              · refine bl_X6_found_111 hG _ _ _ _ _ _ _ _ _ S ⟨fun _ => ?_, fun z => absurd rfl z⟩
                rw [nI_1]
                exact skip (fun q hq w z => by
                  have := hS.2.2.2.2.1 q i hq hi w
                  subst this
                  exact hA z.1)
            refine ⟨fun h5 => ⟨fun z => absurd z (by decide), fun _ => fnd (Or.inl (lb56.mp h5))⟩, fun h5 => ⟨vp_in_nI (by omega) (by decide), fun hl => ⟨fun z => absurd z (by decide), fun _ => fnd (Or.inr (by rw [← (hT.1 i hi).2]; exact hl))⟩, fun hl => ⟨fun _ => skip (fun q hq w z => ?_), fun z => absurd rfl z⟩⟩⟩
            have := hS.2.2.2.2.1 q i hq hi w
            subst this
            rcases z.2 with y1 | y1
            · exact h5 (lb56.mpr y1)
            · rw [(hT.1 q hi).2] at hl; exact hl y1
      exact inner 0 (by omega) 0 (Mk.z (fun i _ z => by omega))
  refine key 0 (by omega) 1 (fun j hj => by omega) (fun j hj => ?_)
  rw [b_1 j hj, decide_eq_true_iff]
  exact ⟨fun z => ⟨0, hS.1, by rw [hS.2.2.1, z], rfl⟩, fun ⟨i, a, b, c⟩ => by have c' : i = 0 := c; rw [← b, c', hS.2.2.1]⟩
theorem fol_one {n : Nat} {o pp : Nat → Nat} {lb : Nat → Int32} {p x y : Int32} {k k' : Nat} (hk : k ≤ 6) (hk' : k' ≤ 6) (a : ∀ j, j < k → ¬ axOf p j = 0) (a' : ∀ j, j < k' → ¬ axOf p j = 0) (b : k = 6 ∨ axOf p k = 0) (b' : k' = 6 ∨ axOf p k' = 0) (h : Mk n o x (PS n o pp lb p k)) (h' : Mk n o y (PS n o pp lb p k')) : x = y := by
  have : k = k' := by
    rcases Nat.lt_trichotomy k k' with q | q | q
    · exact absurd (b.resolve_left (by omega)) (a' k q)
    · exact q
    · exact absurd (b'.resolve_left (by omega)) (a k' q)
  subst this
  exact h.one h'
theorem op_count {S : ab_S} {x1 : Int32} (hJ : Jv S) : Op2 Sp_X5_count [.inr (0, 0), .inl x1] Sp_X6_count [.inr (21, 0), .inl x1] cd1 S := by
  obtain ⟨g, hd, hc, hm⟩ := hJ
  have hw := hd.2.2.2.2.1
  have hS := hw.1
  refine ⟨Nat.le_of_ble_eq_true rfl, fun G hG => ?_⟩
  refine bl_X5_count_0 hG x1 S (sp_c_follow hS hc.2.1.1 (fun k y k6 ka kb hy => ?_))
  refine bl_X5_count_8 hG x1 y S (sp_bitCount (hy.hi hS) ?_)
  refine bl_X5_count_11 hG x1 _ S (fun S1' hs => ?_)
  have hm1 := jq hm hs
  refine ⟨Nat.le_of_ble_eq_true rfl, fun G2 hG2 => ?_⟩
  refine bl_X6_count_0 hG2 x1 S1' (fun S2 e2 => ?_)
  have hT2 : MTd S2 12 (gW g) := by rw [e2]; exact MTd.su hm1.2.1
  refine sp_m_found hS hT2 (fun k' y' k6' ka' kb' hy' => ?_)
  have := fol_one k6 k6' ka ka' kb kb' hy hy'
  subst this
  refine bl_X6_count_10 hG2 x1 y S2 ?_
  have key : ∀ v, v ≤ 24 → G2 16 [some (.inr (21, 0)), some (.inl x1), some (.inl y), some (.inl (nI (fb_ct (fun j => bt y j) v))), some (.inl (nI v))] [] S2 0 := by
    refine ind_up _ ?_ ?_
    · refine bl_X6_count_16 hG2 _ _ _ _ S2 ⟨fun _ => ⟨by rw [e2]; exact Jv_thr hd hc hm hs 0, by rw [e2, su_at], fun x hx => by cases hx; rfl⟩, fun z => absurd (by decide) z⟩
    · intro v hv ih
      refine bl_X6_count_16 hG2 _ _ _ _ S2 ⟨fun z => absurd z (nI_ge (b := 24) hv (by decide)), fun _ => ?_⟩
      rw [bv _ (by omega), nI_1]
      rw [fb_ct_succ] at ih
      by_cases c : bt y v = true
      · rw [if_pos c] at ih ⊢; rw [nI_1]; exact ih
      · rw [if_neg c] at ih ⊢; rw [Int32.add_zero]; exact ih
  exact key 0 (by omega)
/-! find -/
def gst (o : Nat → Nat) (x : Int32) : Nat → Nat → Bool
  | 0 => fun _ => false
  | m + 1 => fun v => if v = o m then bt x (o m) else gst o x m v
theorem gst_no {o : Nat → Nat} {x : Int32} : ∀ m v, (∀ i, i < m → o i ≠ v) → gst o x m v = false
  | 0, _, _ => rfl
  | m + 1, v, h => by
    show (if v = o m then bt x (o m) else gst o x m v) = false
    rw [if_neg (fun e => h m (by omega) e.symm)]
    exact gst_no m v (fun i hi => h i (by omega))
theorem gst_at {o : Nat → Nat} {x : Int32} {v : Nat} : ∀ m, (∃ i, i < m ∧ o i = v) → gst o x m v = bt x v
  | 0, h => by obtain ⟨i, hi, _⟩ := h; omega
  | m + 1, h => by
    show (if v = o m then bt x (o m) else gst o x m v) = bt x v
    by_cases c : v = o m
    · rw [if_pos c, c]
    · rw [if_neg c]
      obtain ⟨i, hi, e⟩ := h
      refine gst_at m ⟨i, ?_, e⟩
      rcases Nat.lt_or_ge i m with q | q
      · exact q
      · exact absurd (by rw [← e, show i = m by omega]) c
theorem gst_ct {n : Nat} {o : Nat → Nat} {x : Int32} (h24 : ∀ i, i < n → o i < 24) (hinj : ∀ i j, i < n → j < n → o i = o j → i = j) : ∀ m, m ≤ n → fb_ct (gst o x m) 24 = fb_ct (fun i => bt x (o i)) m
  | 0, _ => by
    rw [show gst o x 0 = fun _ => false from rfl]
    exact fb_ct_zero.mpr (fun _ _ => rfl)
  | m + 1, hm => by
    have ih := gst_ct (x := x) h24 hinj m (by omega)
    have hu := fb_ct_upd (gst o x m) (bt x (o m)) (i := o m) (n := 24) (h24 m (by omega))
    rw [gst_no m (o m) (fun i hi e => by have := hinj i m (by omega) (by omega) e; omega)] at hu
    rw [show gst o x (m + 1) = fun k => if k = o m then bt x (o m) else gst o x m k from rfl, fb_ct_succ (fun i => bt x (o i)) m]
    rw [ih] at hu
    simpa using hu
theorem ct_row {n : Nat} {o pp : Nat → Nat} {x : Int32} {P : Nat → Prop} (hS : Sh n o pp) (h : Mk n o x P) : fb_ct (fun j => bt x j) 24 = fb_ct (fun i => bt x (o i)) n := by
  rw [← gst_ct hS.2.2.2.1 hS.2.2.2.2.1 n (Nat.le_refl n)]
  apply fb_ct_cong
  intro v hv
  by_cases c : ∃ i, i < n ∧ o i = v
  · rw [gst_at n c]
  · rw [gst_no n v (fun i hi e => c ⟨i, hi, e⟩), Bool.eq_false_iff]
    intro z
    obtain ⟨i, a, b, _⟩ := (h v (by omega)).mp z
    exact c ⟨i, a, b⟩
theorem sp_c_pick {Q : ab_Po} {S : ab_S} {t n k : Nat} {o pp : Nat → Nat} {lb : Nat → Int32} {x : Int32} (hS : Sh n o pp) (hT : Tr S t n o pp lb) (hk : k < fb_ct (fun i => bt x (o i)) n) (hQ : ∀ i, i < n → bt x (o i) = true → fb_ct (fun i => bt x (o i)) i = k → Q (.inl (some (nI (o i)))) S) : Sp_X4_pick [.inr (4, t), .inl x, .inl (nI k)] S Q := by
  refine ⟨Nat.le_of_ble_eq_true rfl, fun G hG => ?_⟩
  have hn := hS.2.1
  have hkn := fb_ct_le (fun i => bt x (o i)) n
  refine bl_X4_pick_0 hG t _ _ S ?_
  have key : ∀ i, i ≤ n → fb_ct (fun i => bt x (o i)) i ≤ k → G 5 [some (.inr (4, t)), some (.inl x), some (.inl (nI k)), some (.inl (nI (fb_ct (fun i => bt x (o i)) i))), some (.inl (nI i))] [] S 0 := by
    refine ind_up _ ?_ ?_
    · intro hle; omega
    · intro i hi ih hle
      have o1 := hS.2.2.2.1 i hi
      rw [fb_ct_succ] at ih
      refine bl_X4_pick_5 hG t _ _ _ _ S ?_
      rw [hT.1, nI_clamp (by omega), (hT.2.1 i hi).1]
      refine pk_le n i (fun z => by omega) (fun _ => ⟨vp_in_nI (by omega) (by decide), sp_c_isIn (by omega) ?_⟩)
      refine bl_X4_pick_25 hG t _ _ _ _ _ S ?_
      rw [nI_1, nI_1, nI_clamp (by omega), (hT.2.1 i hi).1]
      by_cases c : bt x (o i) = true
      · rw [if_pos c] at ih ⊢
        exact ⟨fun z => absurd z (by decide), fun _ => pk_eq _ k (fun e => ⟨vp_in_nI (by omega) (by decide), hQ i hi c e⟩) (fun e => ih (by omega))⟩
      · rw [if_neg c] at ih ⊢
        exact ⟨fun _ => ih hle, fun z => absurd rfl z⟩
  exact key 0 (by omega) (by show (0 : Nat) ≤ k; omega)
theorem op_find {S : ab_S} {x1 x2 : Int32} (hJ : Jv S) : Op2 Sp_X5_find [.inr (0, 0), .inl x1, .inl x2] Sp_X6_find [.inr (21, 0), .inl x1, .inl x2] cd1 S := by
  obtain ⟨g, hd, hc, hm⟩ := hJ
  have hw := hd.2.2.2.2.1
  have hS := hw.1
  have hn := hS.2.1
  refine ⟨Nat.le_of_ble_eq_true rfl, fun G hG => ?_⟩
  refine bl_X5_find_0 hG x1 x2 S (sp_c_follow hS hc.2.1.1 (fun k y k6 ka kb hy => ?_))
  have hrow := ct_row hS hy
  -- the model's loop
  have mdl : ∀ (Qm : ab_Po) (S1' : ab_S), (∀ a, a ≠ 41 → S1' a = S a) →
      (∀ S2, Jv S2 → S2 21 0 0 = 0 → ∀ i, i < (gW g).1 → bt y ((gW g).2.1 i) = true → x2 = nI (fb_ct (fun i => bt y ((gW g).2.1 i)) i) → Qm (.inl (some (nI ((gW g).2.1 i)))) S2) →
      (∀ S2, Jv S2 → S2 21 0 0 = 1 → (∀ i, i < (gW g).1 → bt y ((gW g).2.1 i) = true → x2 ≠ nI (fb_ct (fun i => bt y ((gW g).2.1 i)) i)) → Qm (.inl (some 0)) S2) → Sp_X6_find [.inr (21, 0), .inl x1, .inl x2] S1' Qm := fun Qm S1' hs q1 q2 => by
    have hm1 := jq hm hs
    refine ⟨Nat.le_of_ble_eq_true rfl, fun G2 hG2 => ?_⟩
    refine bl_X6_find_0 hG2 x1 x2 S1' (fun S2 e2 => ?_)
    have hT2 : MTd S2 12 (gW g) := by rw [e2]; exact MTd.su hm1.2.1
    refine sp_m_found hS hT2 (fun k' y' k6' ka' kb' hy' => ?_)
    have := fol_one k6 k6' ka ka' kb kb' hy hy'
    subst this
    refine bl_X6_find_10 hG2 x1 x2 y S2 (sp_m_walk (u := 12) hS hT2 (by decide) (fun S3 w1 w2 w3 => ?_))
    have hJ3 : Jv S3 := Jv_offT hd hc hm hs (OffT.tr (by rw [e2]; exact OffT.su (by decide)) w1.t) (by rw [w1.2 5 (by decide) (by decide), e2, su_j (by decide)]) (w1.tm hT2)
    have t3 : S3 21 0 0 = 0 := by rw [w1.2 0 (by decide) (by decide), e2, su_at]
    refine bl_X6_find_17 hG2 x1 x2 y S3 ?_
    have key : ∀ i, i ≤ (gW g).1 → (∀ j, j < i → bt y ((gW g).2.1 j) = true → x2 ≠ nI (fb_ct (fun i => bt y ((gW g).2.1 i)) j)) → G2 23 [some (.inr (21, 0)), some (.inl x1), some (.inl x2), some (.inl y), some (.inl (nI (fb_ct (fun i => bt y ((gW g).2.1 i)) i))), some (.inl (nI i))] [] S3 0 := by
      refine ind_up _ ?_ ?_
      · intro hno
        refine bl_X6_find_23 hG2 _ _ _ _ _ S3 ?_
        rw [w2]
        refine pk_le (gW g).1 (gW g).1 (fun _ => ?_) (fun z => by omega)
        refine ⟨Nat.le_of_ble_eq_true rfl, fun G3 hG3 => ?_⟩
        refine bl_X6_fail_0 hG3 _ S3 (fun S4 e4 => ?_)
        refine bl_X6_find_75 hG2 _ _ _ _ _ _ S4 (q2 S4 ?_ (by rw [e4, su_at]) hno)
        obtain ⟨g', a, b, c⟩ := hJ3
        rw [e4]; exact Jv_thr a b c (fun _ _ => rfl) 1
      · intro i hi ih hno
        have o1 := hS.2.2.2.1 i hi
        rw [fb_ct_succ] at ih
        refine bl_X6_find_23 hG2 _ _ _ _ _ S3 ?_
        rw [w2, nI_clamp (by omega), w3 i hi, bv _ (by omega), nI_1, nI_1]
        refine pk_le (gW g).1 i (fun z => by omega) (fun _ => ⟨vp_in_nI (by omega) (by decide), ?_⟩)
        by_cases c : bt y ((gW g).2.1 i) = true
        · rw [if_pos c] at ih ⊢
          refine ⟨fun _ => ⟨fun e => ⟨vp_in_nI (by omega) (by decide), q1 S3 hJ3 t3 i hi c e.symm⟩, fun e => ih (fun j hj hb => ?_)⟩, fun z => absurd rfl z⟩
          by_cases q : j = i
          · subst q; exact fun z => e z.symm
          · exact hno j (by omega) hb
        · rw [if_neg c] at ih ⊢
          refine ⟨fun z => absurd z (by decide), fun _ => ih (fun j hj hb => ?_)⟩
          by_cases q : j = i
          · subst q; exact absurd hb c
          · exact hno j (by omega) hb
    exact key 0 (by omega) (fun j hj => by omega)
  have hlt : ∀ i, i < (gW g).1 → bt y ((gW g).2.1 i) = true → fb_ct (fun i => bt y ((gW g).2.1 i)) i < fb_ct (fun i => bt y ((gW g).2.1 i)) (gW g).1 := fun i hi hb => by
    have h1 := fb_ct_mono (fun i => bt y ((gW g).2.1 i)) (show i + 1 ≤ (gW g).1 by omega)
    rw [fb_ct_succ, if_pos hb] at h1
    omega
  have hcn := fb_ct_le (fun i => bt y ((gW g).2.1 i)) (gW g).1
  have bad : Out x2 (fb_ct (fun i => bt y ((gW g).2.1 i)) (gW g).1) → ∀ S1' : ab_S, (∀ a, a ≠ 41 → S1' a = S a) → Sp_X6_find [.inr (21, 0), .inl x1, .inl x2] S1' (fun o2 S2 => Jv S2 ∧ S2 21 0 0 = 1) := fun hO S1' hs => mdl _ S1' hs (fun S2 _ _ i hi hb e => absurd e (hO.ne (by omega) _ (hlt i hi hb))) (fun S2 a b _ => ⟨a, b⟩)
  refine bl_X5_find_8 hG x1 x2 y S ⟨fun h0 => bad (Or.inl h0), fun h0 => ?_⟩
  refine sp_bitCount (hy.hi hS) ?_
  refine bl_X5_find_18 hG x1 x2 y _ _ S ?_
  rw [hrow]
  rcases in_or x2 (n := fb_ct (fun i => bt y ((gW g).2.1 i)) (gW g).1) (by omega) with ⟨c, hcl, rfl⟩ | hO
  · refine ⟨fun _ => ?_, fun z => absurd (nI_lt hcl (by omega)) z⟩
    refine sp_c_pick hS hc.2.1.1 hcl (fun i hi hb e => ?_)
    refine bl_X5_find_40 hG _ _ _ _ S (fun S1' hs => ?_)
    refine mdl _ S1' hs (fun S2 a b j hj hb' e' => ⟨a, b, fun x hx => ?_⟩) (fun S2 _ _ hno => absurd (by rw [e]) (hno i hi hb))
    cases hx
    have hci := fb_ct_le (fun i => bt y ((gW g).2.1 i)) i
    have hcj := fb_ct_le (fun i => bt y ((gW g).2.1 i)) j
    have := fb_ct_kth_one (p := fun i => bt y ((gW g).2.1 i)) hb hb' (by rw [e]; exact (nI_eq (by omega) (by omega)).mp e')
    rw [this]
  · have hb := bad hO
    rcases hO with z | z
    · exact absurd z h0
    · exact ⟨fun w => absurd w z.2.2, fun _ => hb⟩
