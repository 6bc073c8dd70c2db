/-! alike -/
def AlI (n : Nat) (o pp : Nat → Nat) (lb : Nat → Int32) (S : ab_S) (m : Nat) : Prop := (∀ a b, m ≤ a → a < n → m ≤ b → b < n → (S 36 0 (o a) = S 36 0 (o b) ↔ Al n o pp lb a b)) ∧ ∀ a, m ≤ a → a < n → ∃ r, a ≤ r ∧ r < n ∧ S 36 0 (o a) = nI (o r)
theorem op_alike {S : ab_S} {x1 : Int32} (hJ : Jv S) : Op2 Sp_X5_alike [.inr (0, 0), .inl x1] Sp_X6_alike [.inr (21, 0), .inl x1] cd1 S := by
  obtain ⟨g, hd, hc, hm⟩ := hJ
  have hw := hd.2.2.2.2.1
  have hS := hw.1
  have hn := hS.2.1
  have o24 := hS.2.2.2.1
  have inj := hS.2.2.2.2.1
  refine ⟨Nat.le_of_ble_eq_true rfl, fun G hG => ?_⟩
  refine bl_X5_alike_0 hG x1 S (sp_c_reqNode hw hc.2.1 (fun z S1' hs => ?_) (fun s hs1 e1 => ?_))
  · refine ⟨Nat.le_of_ble_eq_true rfl, fun G hG => ?_⟩
    refine bl_X6_alike_0 hG x1 S1' (sp_m_hasIn (u := 12) (by decide) hw (jq hm hs).2.1 (fun _ => ?_) (fun t ht e => not_in ht e z))
    exact bl_X6_alike_8 hG x1 _ S1' ⟨fun _ S2 e2 => th_b' e2 (by decide) (by rw [e2]; exact ⟨Jv_thr hd hc hm hs 1, su_at _ _ _ _ _⟩), fun y => absurd rfl y⟩
  subst e1
  refine bl_X5_alike_5 hG _ S (sp_c_firstAlike hS hc.2.1.1 hs1 (fun i his hA hno => ?_))
  refine bl_X5_alike_13 hG _ _ S (fun S1' hs => ?_)
  have hm1 := jq hm hs
  refine ⟨Nat.le_of_ble_eq_true rfl, fun G2 hG2 => ?_⟩
  refine bl_X6_alike_0 hG2 _ S1' (sp_m_hasIn (u := 12) (by decide) hw hm1.2.1 (fun z => not_in hs1 rfl z) (fun t ht e => ?_))
  refine bl_X6_alike_8 hG2 _ _ S1' ⟨fun z => absurd z (by decide), fun _ S2 e2 => th_g' e2 ?_⟩
  have hT2 : MTd S2 12 (gW g) := by rw [e2]; exact MTd.su hm1.2.1
  refine sp_m_walk (u := 12) hS hT2 (by decide) (fun S3 w1 w2 w3 => ?_)
  have hT3 : MTd S3 12 (gW g) := w1.tm hT2
  refine bl_X6_alike_34 hG2 _ S3 ?_
  rw [w2]
  -- what stays over the loops
  have keep : ∀ T : ab_S, (∀ a b, (a ≠ 36 ∨ b ≠ 0) → T a b = S3 a b) → Jv T ∧ T 21 0 0 = 0 ∧ T 21 0 18 = nI (gW g).1 ∧ (∀ j, j < (gW g).1 → T 34 0 j = nI ((gW g).2.1 j)) ∧ MTd T 12 (gW g) := fun T hT => by
    have h21 : T 21 0 = S3 21 0 := hT 21 0 (Or.inl (by decide))
    have hM : MTd T 12 (gW g) := hT3.rows (fun a h1 h2 => hT a 0 (Or.inl (by omega)))
    refine ⟨?_, ?_, by rw [h21]; exact w2, fun j hj => by rw [hT 34 0 (Or.inl (by decide))]; exact w3 j hj, hM⟩
    · refine Jv_offT hd hc hm hs (S2 := T) (OffT.tr (by rw [e2]; exact OffT.su (by decide)) (OffT.tr w1.t ⟨fun a b z => hT a b (by omega), fun a j z1 z2 _ => by rw [hT a 0 (Or.inl (by omega))], fun f _ => by rw [h21]⟩)) ?_ hM
      rw [h21, w1.2 5 (by decide) (by decide), e2, su_j (by decide)]
    · rw [h21, w1.2 0 (by decide) (by decide), e2, su_at]
  -- the last loop
  have last : ∀ T : ab_S, (∀ a b, (a ≠ 36 ∨ b ≠ 0) → T a b = S3 a b) → AlI (gW g).1 (gW g).2.1 (gW g).2.2.1 (gW g).2.2.2 T 0 → G2 134 [some (.inr (21, 0)), some (.inl (nI ((gW g).2.1 s))), some (.inl (0 : Int32)), none, none] [] T 0 := fun T hT hI => by
    obtain ⟨kJ, k0, k18, k34, kM⟩ := keep T hT
    have os := o24 s hs1
    have key : ∀ k, k ≤ i → G2 134 [some (.inr (21, 0)), some (.inl (nI ((gW g).2.1 s))), some (.inl (nI k)), none, none] [] T 0 := by
      refine ind_up _ ?_ ?_
      · have oi := o24 i (by omega)
        refine bl_X6_alike_134 hG2 _ _ T ?_
        rw [nI_clamp (by omega), k34 i (by omega), nI_clamp (by omega), nI_clamp (by omega)]
        exact ⟨vp_in_nI (by omega) (by decide), vp_in_nI (by omega) (by decide), vp_in_nI (by omega) (by decide), fun _ => ⟨vp_in_nI (by omega) (by decide), kJ, k0, fun x hx => by cases hx; rfl⟩, fun z => absurd ((hI.1 i s (by omega) (by omega) (by omega) hs1).mpr hA) z⟩
      · intro k hk ih
        have ok := o24 k (by omega)
        refine bl_X6_alike_134 hG2 _ _ T ?_
        rw [nI_clamp (by omega), k34 k (by omega), nI_clamp (by omega), nI_clamp (by omega), nI_1]
        exact ⟨vp_in_nI (by omega) (by decide), vp_in_nI (by omega) (by decide), vp_in_nI (by omega) (by decide), fun z => absurd ((hI.1 k s (by omega) (by omega) (by omega) hs1).mp z) (hno k hk), fun _ => ih⟩
    exact key 0 (by omega)
  -- the loop over all nodes, from the end
  have outer : ∀ m, m ≤ (gW g).1 → ∀ T : ab_S, (∀ a b, (a ≠ 36 ∨ b ≠ 0) → T a b = S3 a b) → AlI (gW g).1 (gW g).2.1 (gW g).2.2.1 (gW g).2.2.2 T m → G2 41 [some (.inr (21, 0)), some (.inl (nI ((gW g).2.1 s))), some (.inl (nI m - 1)), none, none] [] T 0 := by
    intro m
    induction m with
    | zero =>
      intro _ T hT hI
      exact bl_X6_alike_41 hG2 _ _ T ⟨fun _ => last T hT hI, fun z => absurd (by decide) z⟩
    | succ p ih =>
      intro hp T hT hI
      obtain ⟨kJ, k0, k18, k34, kM⟩ := keep T hT
      have op := o24 p (by omega)
      rw [nI_pred]
      refine bl_X6_alike_41 hG2 _ _ T ?_
      rw [nI_clamp (by omega), k34 p (by omega), nI_clamp (by omega)]
      refine ⟨fun z => absurd z (nI_pos (by omega)), fun _ => ⟨vp_in_nI (by omega) (by decide), vp_in_nI (by omega) (by decide), fun T1 eT1 => ?_⟩⟩
      have k21 : T1 21 0 18 = nI (gW g).1 := by rw [eT1, su_o (Or.inl (by decide))]; exact k18
      rw [k21]
      -- leaving the inner loop
      have leave : ∀ T2 : ab_S, (∀ a b, (a ≠ 36 ∨ b ≠ 0) → T2 a b = S3 a b) → (∀ j, p < j → j < (gW g).1 → T2 36 0 ((gW g).2.1 j) = T 36 0 ((gW g).2.1 j)) → ((T2 36 0 ((gW g).2.1 p) = nI ((gW g).2.1 p) ∧ ∀ j, p < j → j < (gW g).1 → ¬ Al (gW g).1 (gW g).2.1 (gW g).2.2.1 (gW g).2.2.2 p j) ∨ ∃ j, p < j ∧ j < (gW g).1 ∧ Al (gW g).1 (gW g).2.1 (gW g).2.2.1 (gW g).2.2.2 p j ∧ T2 36 0 ((gW g).2.1 p) = T 36 0 ((gW g).2.1 j)) → G2 41 [some (.inr (21, 0)), some (.inl (nI ((gW g).2.1 s))), some (.inl (nI p + -1)), none, none] [] T2 0 := fun T2 hT2' hsame hcase => by
        rw [i_sub1]
        have fresh : ∀ b, p < b → b < (gW g).1 → T 36 0 ((gW g).2.1 b) ≠ nI ((gW g).2.1 p) := fun b h1 h2 z => by
          obtain ⟨r, r1, r2, r3⟩ := hI.2 b (by omega) h2
          have or' := o24 r r2
          have := inj r p r2 (by omega) ((nI_eq (by omega) (by omega)).mp (r3.symm.trans z))
          omega
        have half : ∀ b, p < b → b < (gW g).1 → (T2 36 0 ((gW g).2.1 p) = T2 36 0 ((gW g).2.1 b) ↔ Al (gW g).1 (gW g).2.1 (gW g).2.2.1 (gW g).2.2.2 p b) := fun b h1 h2 => by
          rw [hsame b h1 h2]
          rcases hcase with ⟨c1, c2⟩ | ⟨j, j1, j2, j3, j4⟩
          · rw [c1]; exact ⟨fun z => absurd z.symm (fresh b h1 h2), fun z => absurd z (c2 b h1 h2)⟩
          · rw [j4, hI.1 j b (by omega) j2 (by omega) h2]
            exact ⟨fun z => j3.tr z, fun z => j3.sy.tr z⟩
        refine ih (by omega) T2 hT2' ⟨fun a b a1 a2 b1 b2 => ?_, fun a a1 a2 => ?_⟩
        · by_cases qa : a = p
          · by_cases qb : b = p
            · subst qa; subst qb; exact ⟨fun _ => Al.rf a2, fun _ => rfl⟩
            · subst qa; exact half b (by omega) b2
          · by_cases qb : b = p
            · subst qb
              have := half a (by omega) a2
              exact ⟨fun z => (this.mp z.symm).sy, fun z => (this.mpr z.sy).symm⟩
            · rw [hsame a (by omega) a2, hsame b (by omega) b2]; exact hI.1 a b (by omega) a2 (by omega) b2
        · by_cases qa : a = p
          · subst qa
            rcases hcase with ⟨c1, c2⟩ | ⟨j, j1, j2, j3, j4⟩
            · exact ⟨a, by omega, a2, c1⟩
            · obtain ⟨r, r1, r2, r3⟩ := hI.2 j (by omega) j2
              exact ⟨r, by omega, r2, j4.trans r3⟩
          · rw [hsame a (by omega) a2]; exact hI.2 a (by omega) a2
      -- the inner loop
      have inner : ∀ q, p < q → q ≤ (gW g).1 → ∀ T2 : ab_S, (∀ a b, (a ≠ 36 ∨ b ≠ 0) → T2 a b = S3 a b) → (∀ j, p < j → j < (gW g).1 → T2 36 0 ((gW g).2.1 j) = T 36 0 ((gW g).2.1 j)) → ((T2 36 0 ((gW g).2.1 p) = nI ((gW g).2.1 p) ∧ ∀ j, q ≤ j → j < (gW g).1 → ¬ Al (gW g).1 (gW g).2.1 (gW g).2.2.1 (gW g).2.2.2 p j) ∨ ∃ j, p < j ∧ j < (gW g).1 ∧ Al (gW g).1 (gW g).2.1 (gW g).2.2.1 (gW g).2.2.2 p j ∧ T2 36 0 ((gW g).2.1 p) = T 36 0 ((gW g).2.1 j)) → G2 67 [some (.inr (21, 0)), some (.inl (nI ((gW g).2.1 s))), some (.inl (nI p)), some (.inl (nI ((gW g).2.1 p))), some (.inl (nI q - 1))] [] T2 0 := by
        intro q
        induction q with
        | zero => intro h; omega
        | succ r ihr =>
          intro hpr hrn T2 hT2' hsame hcase
          obtain ⟨lJ, l0, l18, l34, lM⟩ := keep T2 hT2'
          rw [nI_pred]
          refine bl_X6_alike_67 hG2 _ _ _ _ T2 ?_
          rw [nI_clamp (by omega)]
          refine pk_le r p (fun z => leave T2 hT2' hsame (by
            rcases hcase with ⟨c1, c2⟩ | c
            · exact Or.inl ⟨c1, fun j j1 j2 => c2 j (by omega) j2⟩
            · exact Or.inr c)) (fun z => ⟨vp_in_nI (by omega) (by decide), fun e => ?_, fun e => leave T2 hT2' hsame (by
            rcases hcase with ⟨c1, c2⟩ | c
            · exact absurd c1 e
            · exact Or.inr c)⟩)
          have orr := o24 r (by omega)
          rw [nI_clamp (by omega), l34 r (by omega)]
          refine ⟨vp_in_nI (by omega) (by decide), ?_⟩
          have hc2 : ∀ j, r + 1 ≤ j → j < (gW g).1 → ¬ Al (gW g).1 (gW g).2.1 (gW g).2.2.1 (gW g).2.2.2 p j := by
            rcases hcase with ⟨c1, c2⟩ | ⟨j, j1, j2, j3, j4⟩
            · exact c2
            · exfalso
              obtain ⟨r', r1, r2, r3⟩ := hI.2 j (by omega) j2
              have or' := o24 r' r2
              have := inj r' p r2 (by omega) ((nI_eq (by omega) (by omega)).mp (r3.symm.trans (j4.symm.trans e)))
              omega
          refine sp_m_areAlike hS lM z (by omega) (fun a b a1 a2 b1 b2 => by rw [hsame a a1 a2, hsame b b1 b2]; exact hI.1 a b (by omega) a2 (by omega) b2) (fun hAl => ?_) (fun hAl => ?_)
          · refine bl_X6_alike_100 hG2 _ _ _ _ _ _ T2 ⟨fun z => absurd z (by decide), fun _ => ?_⟩
            rw [nI_clamp (by omega), l34 r (by omega), nI_clamp (by omega), nI_clamp (by omega), i_sub1]
            refine ⟨vp_in_nI (by omega) (by decide), vp_in_nI (by omega) (by decide), vp_in_nI (by omega) (by decide), fun T3 e3 => ?_⟩
            refine ihr z (by omega) T3 (fun a b q => by rw [e3, su_o q]; exact hT2' a b q) (fun j j1 j2 => ?_) (Or.inr ⟨r, z, by omega, hAl, ?_⟩)
            · rw [e3, su_j (fun w => by have := inj j p j2 (by omega) w; omega)]; exact hsame j j1 j2
            · rw [e3, su_at]; exact hsame r z (by omega)
          · refine bl_X6_alike_100 hG2 _ _ _ _ _ _ T2 ⟨fun _ => ?_, fun z => absurd rfl z⟩
            rw [nI_clamp (by omega), i_sub1]
            refine ⟨vp_in_nI (by omega) (by decide), fun T3 e3 => ?_⟩
            refine ihr z (by omega) T3 (fun a b q => by rw [e3, su_o q]; exact hT2' a b q) (fun j j1 j2 => ?_) (Or.inl ⟨by rw [e3, su_at], fun j j1 j2 => ?_⟩)
            · rw [e3, su_j (fun w => by have := inj j p j2 (by omega) w; omega)]; exact hsame j j1 j2
            · by_cases w : j = r
              · subst w; exact hAl
              · exact hc2 j (by omega) j2
      refine inner (gW g).1 (by omega) (Nat.le_refl _) T1 (fun a b q => by rw [eT1, su_o q]; exact hT a b q) (fun j j1 j2 => ?_) (Or.inl ⟨by rw [eT1, su_at], fun j j1 j2 => by omega⟩)
      rw [eT1, su_j (fun w => by have := inj j p j2 (by omega) w; omega)]
  exact outer (gW g).1 (Nat.le_refl _) S3 (fun _ _ _ => rfl) ⟨fun a b a1 a2 => by omega, fun a a1 a2 => by omega⟩
