/-! distance -/
theorem Ends_ex {n : Nat} {pp : Nat → Nat} : ∃ eA, Ends n pp eA := by
  refine ⟨fun i => if h : i < n then Classical.choose (En_ex (pp := pp) h) else 0, fun i hi => ?_⟩
  show En n pp i (if h : i < n then Classical.choose (En_ex (pp := pp) h) else 0)
  rw [dif_pos hi]
  exact Classical.choose_spec (En_ex (pp := pp) hi)
theorem sp_m_distD {Q : ab_Po} {S : ab_S} {nc a b : Nat} {dA dB : sD} {made : Nat} (kA : Okd made dA) (kB : Okd made dB) (s6 : S 21 0 6 = nI nc) (hnc : nc ≤ 12) (ha : a < nc) (hb : b < nc) (mA : MTd S a dA) (mB : MTd S b dB)
    (hQ : ∀ S' d, (∀ κ i, (κ < 21 ∨ (21 < κ ∧ κ < 34) ∨ 40 < κ ∨ i ≠ 0) → S' κ i = S κ i) → (∀ f, f ≠ 0 → f ≠ 18 → f ≠ 21 → S' 21 0 f = S 21 0 f) → S' 21 0 0 = 0 → D0 dA.1 dA.2.2.1 (fun x => dA.2.2.2 (dA.2.1 x)) dB.1 dB.2.2.1 (fun x => dB.2.2.2 (dB.2.1 x)) 0 dA.1 0 dB.1 d → Q (.inl (some (nI d))) S') : Sp_X6_distance [.inr (21, 0), .inl (nI a), .inl (nI b)] S Q := by
  refine ⟨Nat.le_of_ble_eq_true rfl, fun G hG => ?_⟩
  have hS := kA.1
  have hS' := kB.1
  have hn := hS.2.1
  have hn' := hS'.2.1
  have hL := hS.2.2.2.2.2
  have hL' := hS'.2.2.2.2.2
  obtain ⟨eA, hA⟩ := Ends_ex (n := dA.1) (pp := dA.2.2.1)
  obtain ⟨eB, hB⟩ := Ends_ex (n := dB.1) (pp := dB.2.2.1)
  refine bl_X6_distance_0 hG _ _ S (ic_yes s6 hnc ha ?_)
  refine bl_X6_distance_6 hG _ _ _ S ⟨fun z => absurd z (by decide), fun _ => ic_yes s6 hnc hb ?_⟩
  refine bl_X6_distance_14 hG _ _ _ S ⟨fun z => absurd z (by decide), fun _ S1 e1 => th_g' e1 ?_⟩
  have mA1 : MTd S1 a dA := by rw [e1]; exact MTd.su mA
  have mB1 : MTd S1 b dB := by rw [e1]; exact MTd.su mB
  refine sp_m_leave (at' := 0) hS mA1 (by omega) hA (by omega) (fun S2 q lf f2 oA pA => ?_)
  have mB2 : MTd S2 b dB := mB1.rows (fun κ h1 h2 => f2.1 κ 0 (by omega))
  refine bl_X6_distance_40 hG _ _ _ S2 ?_
  refine sp_m_leave (at' := 24) hS' mB2 (by omega) hB (by omega) (fun S3 q' lf' f3 oB pB => ?_)
  refine bl_X6_distance_48 hG _ _ _ _ S3 ?_
  have mA3 : MTd S3 a dA := (mA1.rows (fun κ h1 h2 => f2.1 κ 0 (by omega))).rows (fun κ h1 h2 => f3.1 κ 0 (by omega))
  have mB3 : MTd S3 b dB := mB2.rows (fun κ h1 h2 => f3.1 κ 0 (by omega))
  have pA3 : ∀ k, k < dA.1 → S3 37 0 k = nI (dA.2.1 (q k)) ∧ S3 38 0 k = nI (lf k) := fun k hk => by
    have := pA k hk
    rw [Nat.zero_add] at this
    rw [(f3.2.2 k (by omega)).1, (f3.2.2 k (by omega)).2]; exact this
  -- all pairs of parts
  have cols : ∀ i, i < dA.1 → (∀ T : ab_S, OffF S3 T → (∀ p r, p ≤ i → r < dB.1 → TV dA.1 dA.2.2.1 q lf (fun x => dA.2.2.2 (dA.2.1 x)) dB.1 dB.2.2.1 q' lf' (fun x => dB.2.2.2 (dB.2.1 x)) T p r) → G 53 [some (.inr (21, 0)), some (.inl (nI a)), some (.inl (nI b)), some (.inl (nI dA.1)), some (.inl (nI dB.1)), some (.inl (nI (i + 1))), none] [] T 0) → ∀ j, j ≤ dB.1 → ∀ T : ab_S, OffF S3 T → (∀ p r, p < dA.1 → r < dB.1 → (p < i ∨ (p = i ∧ r < j)) → TV dA.1 dA.2.2.1 q lf (fun x => dA.2.2.2 (dA.2.1 x)) dB.1 dB.2.2.1 q' lf' (fun x => dB.2.2.2 (dB.2.1 x)) T p r) → G 62 [some (.inr (21, 0)), some (.inl (nI a)), some (.inl (nI b)), some (.inl (nI dA.1)), some (.inl (nI dB.1)), some (.inl (nI i)), some (.inl (nI j))] [] T 0 := by
    intro i hi next
    refine ind_up _ ?_ ?_
    · intro T fT hV
      refine bl_X6_distance_62 hG _ _ _ _ _ _ T ?_
      rw [nI_1]
      exact pk_le dB.1 dB.1 (fun _ => next T fT (fun p r hp hr => hV p r (by omega) hr (by omega))) (fun z => by omega)
    · intro j hj ih T fT hV
      refine bl_X6_distance_62 hG _ _ _ _ _ _ T (pk_le dB.1 j (fun z => by omega) (fun _ => ?_))
      have li := (oA.2.2.2 i hi).1
      have lj := (oB.2.2.2 j hj).1
      refine sp_m_compare hS hS' (mA3.rows (fun κ h1 h2 => fT κ 0 (by omega))) (mB3.rows (fun κ h1 h2 => fT κ 0 (by omega))) (by omega) (by omega) hA hB oA oB (fun k hk => by rw [fT 37 0 (by omega), fT 38 0 (by omega)]; exact pA3 k hk) (fun k hk => by rw [fT 37 0 (by omega), fT 38 0 (by omega)]; exact pB k hk) hi hj (fun p r h1 h2 h3 h4 hns => hV p r (by omega) (by omega) ?_) (fun T2 g1 g2 g3 => ?_)
      · by_cases w : p = i
        · refine Or.inr ⟨w, ?_⟩
          by_cases v : r = j
          · subst v; subst w; exact absurd ⟨rfl, rfl⟩ hns
          · omega
        · left; omega
      · refine bl_X6_distance_79 hG _ _ _ _ _ _ T2 ?_
        rw [nI_1]
        refine ih T2 (fun κ x z => by rw [g1 κ x z]; exact fT κ x z) (fun p r hp hr hor => ?_)
        by_cases w : lf i ≤ p ∧ p ≤ i ∧ lf' j ≤ r ∧ r ≤ j ∧ lf p = lf i ∧ lf' r = lf' j
        · exact g2 p r w.1 w.2.1 w.2.2.1 w.2.2.2.1 w.2.2.2.2.1 w.2.2.2.2.2
        · have hor' : p < i ∨ (p = i ∧ r < j) := by
            rcases hor with v | ⟨v1, v2⟩
            · exact Or.inl v
            · by_cases v : r = j
              · subst v; subst v1; exact absurd ⟨li, Nat.le_refl _, lj, Nat.le_refl _, rfl, rfl⟩ w
              · exact Or.inr ⟨v1, by omega⟩
          obtain ⟨d, y1, y2⟩ := hV p r hp hr hor'
          exact ⟨d, by rw [g3 p r (by omega) (by omega) w]; exact y1, y2⟩
  have rows : ∀ i, i ≤ dA.1 → ∀ T : ab_S, OffF S3 T → (∀ p r, p < i → r < dB.1 → TV dA.1 dA.2.2.1 q lf (fun x => dA.2.2.2 (dA.2.1 x)) dB.1 dB.2.2.1 q' lf' (fun x => dB.2.2.2 (dB.2.1 x)) T p r) → G 53 [some (.inr (21, 0)), some (.inl (nI a)), some (.inl (nI b)), some (.inl (nI dA.1)), some (.inl (nI dB.1)), some (.inl (nI i)), none] [] T 0 := by
    refine ind_up _ ?_ ?_
    · intro T fT hV
      have n0 := hS.1
      have n0' := hS'.1
      refine bl_X6_distance_53 hG _ _ _ _ _ T (pk_le dA.1 dA.1 (fun _ => ?_) (fun z => by omega))
      have ei : ((24 : Int32) * (nI dA.1 - 1) + nI dB.1) - 1 = nI (24 * (dA.1 - 1) + (dB.1 - 1)) := by
        rw [show (1 : Int32) = nI 1 from rfl, pk_sub (by omega), mi, pk_sub (by omega), show 24 * (dA.1 - 1) + dB.1 - 1 = 24 * (dA.1 - 1) + (dB.1 - 1) by omega]
      rw [ei, nI_clamp (by omega)]
      refine ⟨vp_in_nI (by omega) (by decide), ?_⟩
      obtain ⟨d, y1, y2⟩ := hV (dA.1 - 1) (dB.1 - 1) (by omega) (by omega)
      rw [y1]
      -- the last one in the order from below is the root: its part is all
      have rootA : q (dA.1 - 1) = 0 := by
        obtain ⟨k, hk, ek⟩ := oA.2.2.1 0 n0
        by_cases w : k = dA.1 - 1
        · rw [← w]; exact ek
        · have := oA.2.1 k (dA.1 - 1) (by omega) (by omega)
          rw [ek] at this
          rcases this with v | v
          · exact absurd v.1 (Nat.not_lt_zero _)
          · exfalso
            refine v.2 ((an_iff hA n0).mpr ⟨v.1, ?_⟩)
            rw [En_0 (hA 0 n0)]; exact oA.1 _ (by omega)
      have rootB : q' (dB.1 - 1) = 0 := by
        obtain ⟨k, hk, ek⟩ := oB.2.2.1 0 n0'
        by_cases w : k = dB.1 - 1
        · rw [← w]; exact ek
        · have := oB.2.1 k (dB.1 - 1) (by omega) (by omega)
          rw [ek] at this
          rcases this with v | v
          · exact absurd v.1 (Nat.not_lt_zero _)
          · exfalso
            refine v.2 ((an_iff hB n0').mpr ⟨v.1, ?_⟩)
            rw [En_0 (hB 0 n0')]; exact oB.1 _ (by omega)
      have lA : lf (dA.1 - 1) = 0 := by
        have := (oA.T hL hA (show 0 ≤ dA.1 - 1 by omega) (by omega)).mp ⟨by rw [rootA]; exact Nat.zero_le _, by rw [rootA, En_0 (hA 0 n0)]; exact oA.1 0 n0⟩
        omega
      have lB : lf' (dB.1 - 1) = 0 := by
        have := (oB.T hL' hB (show 0 ≤ dB.1 - 1 by omega) (by omega)).mp ⟨by rw [rootB]; exact Nat.zero_le _, by rw [rootB, En_0 (hB 0 n0')]; exact oB.1 0 n0'⟩
        omega
      rw [lA, lB, show dA.1 - 1 + 1 = dA.1 by omega, show dB.1 - 1 + 1 = dB.1 by omega] at y2
      have z2 : D0 dA.1 dA.2.2.1 (fun x => dA.2.2.2 (dA.2.1 x)) dB.1 dB.2.2.1 (fun x => dB.2.2.2 (dB.2.1 x)) 0 dA.1 0 dB.1 d := by
        refine Ds.cg y2 (fun x => ⟨fun ⟨k, _, k2, e⟩ => ⟨Nat.zero_le _, by rw [← e]; exact oA.1 k k2⟩, fun z => ?_⟩) (fun x => ⟨fun ⟨k, _, k2, e⟩ => ⟨Nat.zero_le _, by rw [← e]; exact oB.1 k k2⟩, fun z => ?_⟩)
        · obtain ⟨k, hk, e⟩ := oA.2.2.1 x z.2
          exact ⟨k, Nat.zero_le _, hk, e⟩
        · obtain ⟨k, hk, e⟩ := oB.2.2.1 x z.2
          exact ⟨k, Nat.zero_le _, hk, e⟩
      refine hQ T d (fun κ x z => ?_) (fun f z1 z2 z3 => ?_) ?_ z2
      · rw [fT κ x (by omega), f3.1 κ x (by omega), f2.1 κ x (by omega), e1, su_o (by omega)]
      · rw [fT 21 0 (by omega), f3.2.1 f z2 z3, f2.2.1 f z2 z3, e1, su_j z1]
      · rw [fT 21 0 (by omega), f3.2.1 0 (by decide) (by decide), f2.2.1 0 (by decide) (by decide), e1, su_at]
    · intro i hi ih T fT hV
      refine bl_X6_distance_53 hG _ _ _ _ _ T (pk_le dA.1 i (fun z => by omega) (fun _ => ?_))
      exact cols i hi (fun T1 g1 g2 => ih T1 g1 (fun p r hp hr => g2 p r (by omega) hr)) 0 (by omega) T fT (fun p r hp hr hor => hV p r (by omega) hr)
  exact rows 0 (by omega) S3 (fun _ _ _ => rfl) (fun p r hp => absurd hp (Nat.not_lt_zero p))
theorem op_distance {S : ab_S} {x1 x2 : Int32} (hJ : Jv S) : Op2 Sp_X5_distance [.inr (0, 0), .inl x1, .inl x2] Sp_X6_distance [.inr (21, 0), .inl x1, .inl x2] cd1 S := by
  obtain ⟨g, hd, hc, hm⟩ := hJ
  have hnc := hd.2.1.2
  have hsz := hc.1.2.2.2
  refine ⟨Nat.le_of_ble_eq_true rfl, fun G hG => ?_⟩
  refine bl_X5_distance_0 hG x1 x2 S ?_
  rcases in_or x1 (n := gNc g) (by omega) with ⟨a, ha, rfl⟩ | h1
  · refine rc_yes hsz hnc ha ?_
    refine bl_X5_distance_5 hG _ x2 S ?_
    rcases in_or x2 (n := gNc g) (by omega) with ⟨b, hb, rfl⟩ | h2
    · refine rc_yes hsz hnc hb ?_
      refine bl_X5_distance_10 hG _ _ S ?_
      rw [nI_clamp (by omega), nI_clamp (by omega)]
      have kA := (hd.2.2.2.2.2.1 _ ha).1
      have kB := (hd.2.2.2.2.2.1 _ hb).1
      refine ⟨vp_in_nI (by omega) (by decide), vp_in_nI (by omega) (by decide), sp_between kA.1 kB.1 (hc.2.2.1 _ ha).1.1 (hc.2.2.1 _ hb).1.1 (fun S' d f _ hD => ?_)⟩
      refine bl_X5_distance_35 hG _ _ _ S' (fun S1' hs => ?_)
      have hm1 : JM S1' g := hm.congr (fun κ h1 h2 => by rw [hs κ (by omega)]; funext x; exact f κ x (by omega) (by omega) (by omega))
      refine sp_m_distD kA kB hm1.1.2.1 hnc ha hb (hm1.2.2.1 _ ha).1 (hm1.2.2.1 _ hb).1 (fun S2 d' g1 g2 g3 hD' => ?_)
      have ed := Ds.one hD hD'
      subst ed
      refine ⟨⟨g, hd, ?_, ?_⟩, g3, fun x hx => by cases hx; rfl⟩
      · -- the class: its trees and numbers are as before
        have hc1 : JC S' g := by
          obtain ⟨⟨a1, a2, a3, a4⟩, b1, c1, d1, e1⟩ := hc
          refine ⟨⟨?_, ?_, ?_, ?_⟩, ?_, fun i hi => ?_, ?_, ?_⟩
          · rw [f 0 0 (by decide) (by decide) (by decide)]; exact a1
          · rw [f 0 0 (by decide) (by decide) (by decide)]; exact a2
          · rw [f 0 0 (by decide) (by decide) (by decide)]; exact a3
          · rw [f 1 0 (by decide) (by decide) (by decide)]; exact a4
          · exact b1.rows (fun κ h1 h2 => f κ 0 (by omega) (by omega) (by omega))
          · obtain ⟨y1, y2, y3, y4⟩ := c1 i hi
            exact ⟨y1.rows (fun κ h1 h2 => f κ _ (by omega) (by omega) (by omega)), by rw [f 11 0 (by decide) (by decide) (by decide)]; exact y2, by rw [f 12 0 (by decide) (by decide) (by decide)]; exact y3, by rw [f 13 0 (by decide) (by decide) (by decide)]; exact y4⟩
          · rw [f 2 0 (by decide) (by decide) (by decide)]; exact d1
          · rw [f 14 0 (by decide) (by decide) (by decide)]; exact e1
        exact hc1.congr (fun κ hκ => by rw [← hs κ (by omega)]; funext x; exact g1 κ x (by omega))
      · refine ⟨⟨(g2 5 (by decide) (by decide) (by decide)).trans hm1.1.1, (g2 6 (by decide) (by decide) (by decide)).trans hm1.1.2.1, (g2 10 (by decide) (by decide) (by decide)).trans hm1.1.2.2.1, (g2 11 (by decide) (by decide) (by decide)).trans hm1.1.2.2.2⟩, hm1.2.1.rows (fun κ h1 h2 => g1 κ 0 (by omega)), fun i hi => ?_, (g2 12 (by decide) (by decide) (by decide)).trans hm1.2.2.2.1, by rw [g1 29 0 (by omega)]; exact hm1.2.2.2.2⟩
        obtain ⟨b1, b2, b3, b4⟩ := hm1.2.2.1 i hi
        exact ⟨b1.rows (fun κ h1 h2 => g1 κ 0 (by omega)), by rw [g1 26 0 (by omega)]; exact b2, by rw [g1 27 0 (by omega)]; exact b3, by rw [g1 28 0 (by omega)]; exact b4⟩
    · refine rc_no hsz h2 (fun S1' hs => ?_)
      have hm1 := jq hm hs
      refine ⟨Nat.le_of_ble_eq_true rfl, fun G hG => ?_⟩
      refine bl_X6_distance_0 hG _ _ S1' (ic_yes hm1.1.2.1 hnc ha ?_)
      refine bl_X6_distance_6 hG _ _ _ S1' ⟨fun z => absurd z (by decide), fun _ => ic_no hm1.1.2.1 h2 ?_⟩
      refine bl_X6_distance_14 hG _ _ _ S1' ⟨fun _ S2 e2 => th_b' e2 (by decide) ?_, fun z => absurd rfl z⟩
      rw [e2]; exact ⟨Jv_thr hd hc hm hs 1, su_at _ _ _ _ _⟩
  · refine rc_no hsz h1 (fun S1' hs => ?_)
    have hm1 := jq hm hs
    refine ⟨Nat.le_of_ble_eq_true rfl, fun G hG => ?_⟩
    refine bl_X6_distance_0 hG _ _ S1' (ic_no hm1.1.2.1 h1 ?_)
    refine bl_X6_distance_6 hG _ _ _ S1' ⟨fun _ S2 e2 => th_b' e2 (by decide) ?_, fun z => absurd rfl z⟩
    rw [e2]; exact ⟨Jv_thr hd hc hm hs 1, su_at _ _ _ _ _⟩
