/-! merge -/
theorem AllK.one {kd : Nat → Nat} {rl rp : Nat → Int32} {K K' : Nat → Nat} (h : AllK kd rl rp K) (h' : AllK kd rl rp K') : K = K' := by
  rcases h with ⟨a, b⟩ | ⟨a, a2, b⟩ | ⟨a, a2, b⟩ <;> rcases h' with ⟨c, d⟩ | ⟨c, c2, d⟩ | ⟨c, c2, d⟩
  · rw [b, d]
  · exact absurd c a
  · exact absurd c a
  · exact absurd a c
  · rw [b, d]
  · exact absurd c2 a2
  · exact absurd a c
  · exact absurd a2 c2
  · rw [b, d]
theorem AllK.zero {kd : Nat → Nat} {rl rp : Nat → Int32} {K : Nat → Nat} (h : AllK kd rl rp K) (h1 : cf kd 24 = 0) (h2 : cf (K2 rl rp) 24 = 0) (h3 : cf (K3 rl rp) 24 = 0) : cf K 24 = 0 := by
  rcases h with ⟨a, b⟩ | ⟨a, a2, b⟩ | ⟨a, a2, b⟩
  · exact absurd h1 a
  · exact absurd h2 a2
  · rw [b]; exact h3
theorem MD.of {S : ab_S} {t t' made : Nat} {d e : sD} (kd : Okd made d) (ke : Okd made e) (h : CTd S t d) (h' : CTd S t' e) : MD d.1 e.1 d.2.1 e.2.1 (S 7 t) (S 7 t') := by
  refine ⟨kd.1.2.2.2.1, kd.1.2.2.2.2.1, ke.1.2.2.2.1, ke.1.2.2.2.2.1, fun v hv hne => ?_, fun v hv hne => ?_⟩
  · apply Classical.byContradiction
    intro hno
    exact hne (h.2 v hv (fun i hi e => hno ⟨i, hi, e⟩)).1
  · apply Classical.byContradiction
    intro hno
    exact hne (h'.2 v hv (fun i hi e => hno ⟨i, hi, e⟩)).1
theorem RO.of {S : ab_S} {t made : Nat} {d : sD} (kd : Okd made d) (h : CTd S t d) (ht : t ≠ 13) : RO S t d.1 d.2.1 (S 7 t) := ⟨h.1.1, kd.1.2.1, fun j hj => (h.1.2.1 j hj).1, fun _ _ => rfl, ht⟩
theorem PPd.of {S : ab_S} {t : Nat} {d : sD} (h : CTd S t d) : PPd d (S 7 t) := ⟨h.1.2.2.2, h.1.2.2.1⟩
theorem MTd.lt288 {S S' : ab_S} {u made : Nat} {d : sD} (h : MTd S u d) (hk : Okd made d) (hu : u < 12) (f2 : ∀ a j, 22 ≤ a → a ≤ 25 → j < 288 → S' a 0 j = S a 0 j) : MTd S' u d := by
  have o24 := hk.1.2.2.2.1
  refine ⟨fun j hj => ?_, ?_, fun j j0 hj => ?_, fun v hv hno => ?_⟩
  · have := o24 j hj
    rw [f2 22 _ (by decide) (by decide) (by omega), f2 23 _ (by decide) (by decide) (by omega)]; exact h.1 j hj
  · rw [f2 24 _ (by decide) (by decide) (by omega), f2 25 _ (by decide) (by decide) (by omega)]; exact h.2.1
  · have := o24 j hj
    rw [f2 24 _ (by decide) (by decide) (by omega), f2 25 _ (by decide) (by decide) (by omega)]; exact h.2.2.1 j j0 hj
  · rw [f2 22 _ (by decide) (by decide) (by omega)]; exact h.2.2.2 v hv hno
def gCfl (g : gD) (k : Nat) (row : Nat → Int32) : gD := (gMade g, gNc g, gHead g, gTk g, gW g, gCs g, gFp g, gSq g, gRc g, k, row)
def gMrg (g : gD) (c : Nat) (d : sD) (row : Nat → Int32) : gD := (gMade g, gNc g, gHead g, nI c, d, gCs g, gFp g, gSq g, gRc g, 0, row)
theorem op_merge {S : ab_S} {x1 : Int32} (hJ : Jv S) : Op2 Sp_X5_merge [.inr (0, 0), .inl x1] Sp_X6_merge [.inr (21, 0), .inl x1] cd12 S := by
  obtain ⟨g, hd, hc, hm⟩ := hJ
  have hnc := hd.2.1.2
  have hsz := hc.1.2.2.2
  have hhd := hd.2.2.1
  have kW := hd.2.2.2.2.1
  refine ⟨Nat.le_of_ble_eq_true rfl, fun G hG => ?_⟩
  refine bl_X5_merge_0 hG x1 S ?_
  rcases in_or x1 (n := gNc g) (by omega) with ⟨c, hcn, rfl⟩ | h1
  · refine rc_yes hsz hnc hcn ?_
    refine bl_X5_merge_5 hG _ S ?_
    rw [hc.1.2.1, hc.1.2.2.1, nI_clamp (by omega)]
    have kO := (hd.2.2.2.2.2.1 _ hhd).1
    have kT := (hd.2.2.2.2.2.1 _ hcn).1
    have cO := (hc.2.2.1 _ hhd).1
    have cT := (hc.2.2.1 _ hcn).1
    -- an answer of 2
    have two : ∀ S1' : ab_S, (∀ a, a ≠ 41 → S1' a = S a) → ((¬ gTk g = -1) ∨ (gTk g = -1 ∧ ¬ SameD (gW g) (gCs g (gHead g)))) → Sp_X6_merge [.inr (21, 0), .inl (nI c)] S1' (fun o2 S2 => Jv S2 ∧ S2 21 0 0 = 2) := fun S1' hs hwhy => by
      have hm1 := jq hm hs
      refine ⟨Nat.le_of_ble_eq_true rfl, fun G2 hG2 => ?_⟩
      refine bl_X6_merge_0 hG2 _ S1' (ic_yes hm1.1.2.1 hnc hcn ?_)
      refine bl_X6_merge_6 hG2 _ _ S1' ⟨fun z => absurd z (by decide), fun _ => ?_⟩
      rw [hm1.1.2.2.2]
      have bad : ∀ S2, S2 = ab_su S1' 21 0 0 2 → Jv S2 ∧ S2 21 0 0 = 2 := fun S2 e2 => by rw [e2]; exact ⟨Jv_thr hd hc hm hs 2, su_at _ _ _ _ _⟩
      rcases hwhy with z | ⟨z, z2⟩
      · rcases hd.2.2.2.1 with y | ⟨c', hc', y⟩
        · exact absurd y z
        · rw [y]
          exact ⟨fun _ S2 e2 => th_b' e2 (by decide) (bad S2 e2), fun w => absurd (nI_pos' (by omega)) w⟩
      · rw [z]
        refine ⟨fun w => absurd w (by decide), fun _ => sp_m_isHeads kW kO hm1.2.1 (hm1.2.2.1 _ hhd).1 hm1.1.2.2.1 (by omega) (fun y => absurd y z2) (fun _ => ?_)⟩
        exact bl_X6_merge_24 hG2 _ _ S1' ⟨fun _ S2 e2 => th_b' e2 (by decide) (bad S2 e2), fun w => absurd rfl w⟩
    refine ⟨vp_in_nI (by omega) (by decide), fun tk => ?_, fun tk S1' hs => two S1' hs (Or.inl tk)⟩
    refine sp_c_isSameAs kW kO hc.2.1 cO (fun same => ?_) (fun same => bl_X5_merge_34 hG _ _ _ S ⟨fun _ S1' hs => two S1' hs (Or.inr ⟨tk, same⟩), fun w => absurd rfl w⟩)
    refine bl_X5_merge_34 hG _ _ _ S ⟨fun w => absurd w (by decide), fun _ => ⟨vp_in_nI (by omega) (by decide), ?_⟩⟩
    rw [hc.1.2.1, nI_clamp (by omega)]
    refine sp_c_baseOf hsz hnc (fun i hi => (hc.2.2.1 i hi).2.2.2) hhd hcn (base_ex hd hhd hcn) (fun bb hbb => ?_)
    have hbn := hbb.1
    have kB := (hd.2.2.2.2.2.1 _ hbn).1
    have cB := (hc.2.2.1 _ hbn).1
    have fO := TF.of kO cO
    have fT := TF.of kT cT
    have fB := TF.of kB cB
    have hM := MD.of kO kT cO cT
    refine bl_X5_merge_80 hG _ _ _ _ _ S ⟨vp_in_nI (by omega) (by decide), ?_⟩
    rw [nI_clamp (by omega)]
    -- the class's part over a run
    have cls : ∀ S' : ab_S, FrR S S' → ∀ (k : Nat), S' 2 0 2 = nI k → JC S' (gCfl g k (S' 14 0)) := fun S' f k hk => by
      refine ⟨⟨?_, ?_, ?_, ?_⟩, ?_, fun i hi => ?_, hk, fun j _ => rfl⟩
      · rw [f 0 0 (by omega) (by omega) (by omega)]; exact hc.1.1
      · rw [f 0 0 (by omega) (by omega) (by omega)]; exact hc.1.2.1
      · rw [f 0 0 (by omega) (by omega) (by omega)]; exact hc.1.2.2.1
      · rw [f 1 0 (by omega) (by omega) (by omega)]; exact hsz
      · exact hc.2.1.rows (fun a h1 h2 => f a 0 (by omega) (by omega) (by omega))
      · have hi' : i < gNc g := hi
        obtain ⟨b1, b2, b3, b4⟩ := hc.2.2.1 i hi
        exact ⟨b1.rows (fun a h1 h2 => f a (i + 1) (by omega) (by omega) (by omega)), by rw [f 11 0 (by omega) (by omega) (by omega)]; exact b2, by rw [f 12 0 (by omega) (by omega) (by omega)]; exact b3, by rw [f 13 0 (by omega) (by omega) (by omega)]; exact b4⟩
    have mdl : ∀ S' S1' : ab_S, (∀ a b, 21 ≤ a → S' a b = S a b) → (∀ a, a ≠ 41 → S1' a = S' a) → JM S1' g := fun S' S1' f hs => hm.congr (fun a h1 h2 => by rw [hs a (by omega)]; funext b; exact f a b h1)
    -- the answer where there are conflicts
    have conf : ∀ K, AllK (kF (S 8 (gHead g + 1)) (S 7 (gHead g + 1)) (S 8 (c + 1)) (S 7 (c + 1)) (S 8 (bb + 1)) (S 7 (bb + 1))) (lF (S 8 (gHead g + 1)) (S 7 (gHead g + 1)) (S 8 (c + 1)) (S 7 (c + 1)) (S 8 (bb + 1)) (S 7 (bb + 1))) (pF (S 8 (gHead g + 1)) (S 7 (gHead g + 1)) (S 8 (c + 1)) (S 7 (c + 1)) (S 8 (bb + 1)) (S 7 (bb + 1))) K → cf K 24 ≠ 0 → ∀ S', FrR S S' → CLg (S' 2 0 2) (S' 14 0) K 24 → G 84 [some (.inr (0, 0)), some (.inl (nI c)), some (.inr (4, gHead g + 1)), none] [.inl (nI (cf K 24))] S' 1 := fun K hK hK0 S' f hC => by
      have k24 := cf_le K 24
      refine bl_X5_merge_84 hG _ _ _ S' ⟨fun z => absurd ((nI_eq (b := 0) (by omega) (by decide)).mp z) hK0, fun _ S1' hs => ?_⟩
      have hm1 := mdl S' S1' (fun a b h => f a b (by omega) (by omega) (by omega)) hs
      refine sp_m_mergeD (n := 0) (o := id) (pp := id) hm1.1.2.1 hnc hcn hhd hm1.1.2.2.1 (by rw [hm1.1.2.2.2]; exact tk) kW kO kT hm1.2.1 (hm1.2.2.1 _ hhd).1 (hm1.2.2.1 _ hcn).1 same (fun i hi => (hm1.2.2.1 i hi).2.2.2) hbb (MLk.of kO cO (hm1.2.2.1 _ hhd).1) (MLk.of kT cT (hm1.2.2.1 _ hcn).1) (MLk.of kB cB (hm1.2.2.1 _ hbn).1) fO fT fB hM (PPd.of cO) (PPd.of cT) (fun z1 z2 z3 => absurd (hK.zero z1 z2 z3) hK0) (fun K' S2 hK' _ f2 t2 hC2 => ?_) (fun z1 z2 z3 => absurd (hK.zero z1 z2 z3) hK0)
      have eK := hK.one hK'
      subst eK
      refine ⟨⟨gCfl g (cf K 24) (S' 14 0), ?_, ?_, ?_⟩, t2, fun x hx => by cases hx; rfl⟩
      · obtain ⟨d1, d2, d3, d4, d5, d6, d7⟩ := hd
        exact ⟨d1, d2, d3, d4, d5, d6, k24⟩
      · exact (cls S' f _ hC.1).congr (fun a ha => by rw [← hs a (by omega)]; funext b; exact f2.1 a b (by omega))
      · refine ⟨⟨(f2.2 5 (by decide) (by decide)).trans hm1.1.1, (f2.2 6 (by decide) (by decide)).trans hm1.1.2.1, (f2.2 10 (by decide) (by decide)).trans hm1.1.2.2.1, (f2.2 11 (by decide) (by decide)).trans hm1.1.2.2.2⟩, hm1.2.1.rows (fun a h1 h2 => f2.1 a 0 (by omega)), fun i hi => ?_, hC2.1, fun k hk => ?_⟩
        · obtain ⟨b1, b2, b3, b4⟩ := hm1.2.2.1 i hi
          exact ⟨b1.rows (fun a h1 h2 => f2.1 a 0 (by omega)), by rw [f2.1 26 0 (by omega)]; exact b2, by rw [f2.1 27 0 (by omega)]; exact b3, by rw [f2.1 28 0 (by omega)]; exact b4⟩
        · obtain ⟨v, hv, hp, ev⟩ := fb_ct_kth (p := fun w => decide (0 < K w)) (n := 24) (k := k) hk
          have hp' : 0 < K v := by simpa using hp
          have ev' : cf K v = k := ev
          rw [← ev']
          show S2 29 0 (cf K v) = S' 14 0 (cf K v)
          rw [hC2.2 v hv hp', hC.2 v hv hp']
    refine sp_run (by omega) (by omega) (by omega) ⟨rfl, rfl⟩ ⟨rfl, rfl⟩ ⟨rfl, rfl⟩ fO fT hM (RO.of kO cO (by omega)) (RO.of kT cT (by omega)) (fun z S' f hC => conf _ (Or.inl ⟨z, rfl⟩) z S' f hC) (fun z1 z S' f hC => conf _ (Or.inr (Or.inl ⟨z1, z, rfl⟩)) z S' f hC) (fun z1 z2 z S' f hC => conf _ (Or.inr (Or.inr ⟨z1, z2, rfl⟩)) z S' f hC) (fun z1 z2 z3 S' n o pp f hz cR kR hpar hK hall => ?_)
    refine bl_X5_merge_84 hG _ _ _ S' ⟨fun _ => ?_, fun w => absurd rfl w⟩
    refine sp_copyFrom (by omega) (fun S2 o2 c4 cc => ?_)
    refine bl_X5_merge_103 hG _ _ _ S2 (fun S3 e3 S1' hs => ?_)
    have hm1 := mdl S3 S1' (fun a b h => by rw [e3, su_o (by omega), o2 a b (by omega)]; exact f a b (by omega) (by omega) (by omega)) hs
    have hC3 : JC S3 (gMrg g c (n, o, pp, lF (S 8 (gHead g + 1)) (S 7 (gHead g + 1)) (S 8 (c + 1)) (S 7 (c + 1)) (S 8 (bb + 1)) (S 7 (bb + 1))) (S' 14 0)) := by
      refine ⟨⟨?_, ?_, ?_, ?_⟩, ?_, fun i hi => ?_, ?_, fun k hk => absurd hk (Nat.not_lt_zero k)⟩
      · rw [e3, su_j (by decide), o2 0 0 (by omega), f 0 0 (by omega) (by omega) (by omega)]; exact hc.1.1
      · rw [e3, su_j (by decide), o2 0 0 (by omega), f 0 0 (by omega) (by omega) (by omega)]; exact hc.1.2.1
      · rw [e3, su_at]; rfl
      · rw [e3, su_o (by omega), o2 1 0 (by omega), f 1 0 (by omega) (by omega) (by omega)]; exact hsz
      · exact (cR.cp kR c4 cc).rows (fun a h1 h2 => by rw [e3, su_o (by omega)])
      · have hi' : i < gNc g := hi
        obtain ⟨b1, b2, b3, b4⟩ := hc.2.2.1 i hi
        refine ⟨b1.rows (fun a h1 h2 => by rw [e3, su_o (by omega), o2 a (i + 1) (by omega), f a (i + 1) (by omega) (by omega) (by omega)]), ?_, ?_, ?_⟩
        · rw [e3, su_o (by omega), o2 11 0 (by omega), f 11 0 (by omega) (by omega) (by omega)]; exact b2
        · rw [e3, su_o (by omega), o2 12 0 (by omega), f 12 0 (by omega) (by omega) (by omega)]; exact b3
        · rw [e3, su_o (by omega), o2 13 0 (by omega), f 13 0 (by omega) (by omega) (by omega)]; exact b4
      · rw [e3, su_o (by omega), o2 2 0 (by omega), hz]; rfl
    refine sp_m_mergeD (n := n) (o := o) (pp := pp) hm1.1.2.1 hnc hcn hhd hm1.1.2.2.1 (by rw [hm1.1.2.2.2]; exact tk) kW kO kT hm1.2.1 (hm1.2.2.1 _ hhd).1 (hm1.2.2.1 _ hcn).1 same (fun i hi => (hm1.2.2.1 i hi).2.2.2) hbb (MLk.of kO cO (hm1.2.2.1 _ hhd).1) (MLk.of kT cT (hm1.2.2.1 _ hcn).1) (MLk.of kB cB (hm1.2.2.1 _ hbn).1) fO fT fB hM (PPd.of cO) (PPd.of cT) (fun _ _ _ => ⟨kR, hpar, hK, hall⟩) (fun K' S4 hK' hK0 => absurd (hK'.zero z1 z2 z3) hK0) (fun _ _ _ S4 f1 f2 f3 t0 t12 t11 mR => ?_)
    refine ⟨⟨gMrg g c (n, o, pp, lF (S 8 (gHead g + 1)) (S 7 (gHead g + 1)) (S 8 (c + 1)) (S 7 (c + 1)) (S 8 (bb + 1)) (S 7 (bb + 1))) (S' 14 0), ?_, ?_, ?_⟩, t0, fun x hx => by cases hx; rfl⟩
    · obtain ⟨d1, d2, d3, d4, d5, d6, d7⟩ := hd
      exact ⟨d1, d2, d3, Or.inr ⟨c, hcn, rfl⟩, kR, d6, Nat.zero_le _⟩
    · exact hC3.congr (fun a ha => by rw [← hs a (by omega)]; funext b; exact f1 a b (by omega))
    · refine ⟨⟨(f3 5 (by decide) (by decide) (by decide)).trans hm1.1.1, (f3 6 (by decide) (by decide) (by decide)).trans hm1.1.2.1, (f3 10 (by decide) (by decide) (by decide)).trans hm1.1.2.2.1, t11⟩, mR, fun i hi => ?_, t12, fun k hk => absurd hk (Nat.not_lt_zero k)⟩
      have hi' : i < gNc g := hi
      obtain ⟨b1, b2, b3, b4⟩ := hm1.2.2.1 i hi
      refine ⟨?_, by rw [f1 26 0 (by omega)]; exact b2, by rw [f1 27 0 (by omega)]; exact b3, by rw [f1 28 0 (by omega)]; exact b4⟩
      have ki := (hd.2.2.2.2.2.1 i hi).1
      show MTd S4 i (gCs g i)
      exact b1.lt288 ki (by omega) f2
  · refine rc_no hsz h1 (fun S1' hs => ?_)
    have hm1 := jq hm hs
    refine ⟨Nat.le_of_ble_eq_true rfl, fun G2 hG2 => ?_⟩
    refine bl_X6_merge_0 hG2 _ S1' (ic_no hm1.1.2.1 h1 ?_)
    refine bl_X6_merge_6 hG2 _ _ S1' ⟨fun _ S2 e2 => th_b' e2 (by decide) ?_, fun z => absurd rfl z⟩
    rw [e2]; exact ⟨Jv_thr hd hc hm hs 1, su_at _ _ _ _ _⟩
