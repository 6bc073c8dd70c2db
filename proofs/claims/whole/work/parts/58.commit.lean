/-! The model's copy of a tree; commit and checkout. -/
def OffC (S S' : ab_S) (u : Nat) : Prop := (∀ a b, (a < 22 ∨ 25 < a ∨ b ≠ 0) → S' a b = S a b) ∧ ∀ a j, (j < 24 * u ∨ 24 * u + 24 ≤ j) → S' a 0 j = S a 0 j
theorem sp_m_copy {Q : ab_Po} {S : ab_S} {u w : Nat} (hu : u < 14) (hw : w < 14) (hne : u ≠ w)
    (hQ : ∀ S', OffC S S' w → (∀ v, v < 24 → S' 22 0 (24 * w + v) = vp_nar .boolean (S 22 0 (24 * u + v)) ∧ S' 23 0 (24 * w + v) = S 23 0 (24 * u + v) ∧ S' 24 0 (24 * w + v) = S 24 0 (24 * u + v) ∧ S' 25 0 (24 * w + v) = S 25 0 (24 * u + v)) → Q (.inl none) S') : Sp_X6_copy [.inr (21, 0), .inl (nI u), .inl (nI w)] S Q := by
  refine ⟨Nat.le_of_ble_eq_true rfl, fun G hG => ?_⟩
  refine bl_X6_copy_0 hG _ _ S ?_
  have key : ∀ k, k ≤ 24 → ∀ S1 : ab_S, OffC S S1 w → (∀ v, v < k → S1 22 0 (24 * w + v) = vp_nar .boolean (S 22 0 (24 * u + v)) ∧ S1 23 0 (24 * w + v) = S 23 0 (24 * u + v) ∧ S1 24 0 (24 * w + v) = S 24 0 (24 * u + v) ∧ S1 25 0 (24 * w + v) = S 25 0 (24 * u + v)) → G 2 [some (.inr (21, 0)), some (.inl (nI u)), some (.inl (nI w)), some (.inl (nI k))] [] S1 0 := by
    refine ind_up _ ?_ ?_
    · intro S1 h1 h2
      refine bl_X6_copy_2 hG _ _ _ S1 ⟨fun _ => hQ S1 h1 h2, fun z => absurd (by decide) z⟩
    · intro k hk ih S1 h1 h2
      refine bl_X6_copy_2 hG _ _ _ S1 ?_
      rw [mi, mi, nI_1, nI_clamp (by omega), nI_clamp (by omega)]
      have i1 : vp_in (nI (24 * u + k)) 336 := vp_in_nI (by omega) (by decide)
      have i2 : vp_in (nI (24 * w + k)) 336 := vp_in_nI (by omega) (by decide)
      have hro : ∀ a, S1 a 0 (24 * u + k) = S a 0 (24 * u + k) := fun a => h1.2 a _ (by omega)
      refine ⟨fun z => absurd z (nI_ge hk (by decide)), fun _ => ⟨i1, i2, fun S2 e2 => ⟨i1, i2, fun S3 e3 => ⟨i1, i2, fun S4 e4 => ⟨i1, i2, fun S5 e5 => ih S5 ⟨fun a b z => ?_, fun a j z => ?_⟩ (fun v hv => ?_)⟩⟩⟩⟩⟩
      · rw [e5, su_o (by omega), e4, su_o (by omega), e3, su_o (by omega), e2, su_o (by omega)]; exact h1.1 a b z
      · have hj : j ≠ 24 * w + k := by omega
        by_cases a2 : a = 22
        · subst a2; rw [e5, su_o (by omega), e4, su_o (by omega), e3, su_o (by omega), e2, su_j hj]; exact h1.2 22 j z
        by_cases a3 : a = 23
        · subst a3; rw [e5, su_o (by omega), e4, su_o (by omega), e3, su_j hj, e2, su_o (by omega)]; exact h1.2 23 j z
        by_cases a4 : a = 24
        · subst a4; rw [e5, su_o (by omega), e4, su_j hj, e3, su_o (by omega), e2, su_o (by omega)]; exact h1.2 24 j z
        by_cases a5 : a = 25
        · subst a5; rw [e5, su_j hj, e4, su_o (by omega), e3, su_o (by omega), e2, su_o (by omega)]; exact h1.2 25 j z
        · rw [e5, su_o (by omega), e4, su_o (by omega), e3, su_o (by omega), e2, su_o (by omega)]; exact h1.2 a j z
      · by_cases q : v = k
        · subst q
          refine ⟨?_, ?_, ?_, ?_⟩
          · rw [e5, su_o (by omega), e4, su_o (by omega), e3, su_o (by omega), e2, su_at, hro]
          · rw [e5, su_o (by omega), e4, su_o (by omega), e3, su_at, e2, su_o (by omega), hro]
          · rw [e5, su_o (by omega), e4, su_at, e3, su_o (by omega), e2, su_o (by omega), hro]
          · rw [e5, su_at, e4, su_o (by omega), e3, su_o (by omega), e2, su_o (by omega), hro]
        · have hj : 24 * w + v ≠ 24 * w + k := by omega
          obtain ⟨q1, q2, q3, q4⟩ := h2 v (by omega)
          refine ⟨?_, ?_, ?_, ?_⟩
          · rw [e5, su_o (by omega), e4, su_o (by omega), e3, su_o (by omega), e2, su_j hj]; exact q1
          · rw [e5, su_o (by omega), e4, su_o (by omega), e3, su_j hj, e2, su_o (by omega)]; exact q2
          · rw [e5, su_o (by omega), e4, su_j hj, e3, su_o (by omega), e2, su_o (by omega)]; exact q3
          · rw [e5, su_j hj, e4, su_o (by omega), e3, su_o (by omega), e2, su_o (by omega)]; exact q4
  exact key 0 (by omega) S ⟨fun _ _ _ => rfl, fun _ _ _ => rfl⟩ (fun v hv => by omega)
theorem MTd.cp {S S' : ab_S} {u w made : Nat} {d : sD} (hk : Okd made d) (h : MTd S u d) (hc : ∀ v, v < 24 → S' 22 0 (24 * w + v) = vp_nar .boolean (S 22 0 (24 * u + v)) ∧ S' 23 0 (24 * w + v) = S 23 0 (24 * u + v) ∧ S' 24 0 (24 * w + v) = S 24 0 (24 * u + v) ∧ S' 25 0 (24 * w + v) = S 25 0 (24 * u + v)) : MTd S' w d := by
  have o24 := hk.1.2.2.2.1
  refine ⟨fun i hi => ?_, ?_, fun i i0 hi => ?_, fun v hv hno => ?_⟩
  · rw [(hc _ (o24 i hi)).1, (hc _ (o24 i hi)).2.1, (h.1 i hi).1]; exact ⟨nar1, (h.1 i hi).2⟩
  · have h0 := hc 0 (by decide)
    rw [Nat.add_zero, Nat.add_zero] at h0
    rw [h0.2.2.1, h0.2.2.2]; exact h.2.1
  · rw [(hc _ (o24 i hi)).2.2.1, (hc _ (o24 i hi)).2.2.2]; exact h.2.2.1 i i0 hi
  · rw [(hc v hv).1, h.2.2.2 v hv hno]; exact nar0
theorem MTd.offC {S S' : ab_S} {u w made : Nat} {d : sD} (hk : Okd made d) (h : MTd S u d) (hne : u ≠ w) (ho : OffC S S' w) : MTd S' u d := by
  have o24 := hk.1.2.2.2.1
  refine ⟨fun i hi => ?_, ?_, fun i i0 hi => ?_, fun v hv hno => ?_⟩
  · have := o24 i hi
    rw [ho.2 22 _ (by omega), ho.2 23 _ (by omega)]; exact h.1 i hi
  · rw [ho.2 24 _ (by omega), ho.2 25 _ (by omega)]; exact h.2.1
  · have := o24 i hi
    rw [ho.2 24 _ (by omega), ho.2 25 _ (by omega)]; exact h.2.2.1 i i0 hi
  · rw [ho.2 22 _ (by omega)]; exact h.2.2.2 v hv hno
theorem MTd.rows {S S' : ab_S} {u : Nat} {d : sD} (h : MTd S u d) (hs : ∀ a, 22 ≤ a → a ≤ 25 → S' a 0 = S a 0) : MTd S' u d := by
  unfold MTd TM
  rw [hs 22 (by decide) (by decide), hs 23 (by decide) (by decide), hs 24 (by decide) (by decide), hs 25 (by decide) (by decide)]
  exact h
theorem CTd.rows {S S' : ab_S} {t : Nat} {d : sD} (h : CTd S t d) (hs : ∀ a, 4 ≤ a → a ≤ 8 → S' a t = S a t) : CTd S' t d := by
  unfold CTd Tr Ab
  rw [hs 4 (by decide) (by decide), hs 5 (by decide) (by decide), hs 6 (by decide) (by decide), hs 7 (by decide) (by decide), hs 8 (by decide) (by decide)]
  exact h
theorem CTd.cp {S S' : ab_S} {t w made : Nat} {d : sD} (hk : Okd made d) (h : CTd S t d) (h4 : S' 4 w 4 = S 4 t 4) (hc : ∀ j, j < 24 → S' 5 w j = S 5 t j ∧ S' 6 w j = S 6 t j ∧ S' 7 w j = S 7 t j ∧ S' 8 w j = S 8 t j) : CTd S' w d := by
  have o24 := hk.1.2.2.2.1
  have hn := hk.1.2.1
  refine ⟨⟨h4.trans h.1.1, fun i hi => ?_, (hc 0 (by decide)).2.2.1.trans h.1.2.2.1, fun i i0 hi => (hc _ (o24 i hi)).2.2.1.trans (h.1.2.2.2 i i0 hi)⟩, fun v hv hno => ?_⟩
  · rw [(hc i (by omega)).1, (hc _ (o24 i hi)).2.1, (hc _ (o24 i hi)).2.2.2]; exact h.1.2.1 i hi
  · rw [(hc v hv).2.2.1, (hc v hv).2.2.2]; exact h.2 v hv hno
/-! commit -/
def gUp {α : Type} (f : Nat → α) (n : Nat) (x : α) : Nat → α := fun c => if c = n then x else f c
theorem gUp_at {α : Type} {f : Nat → α} {n : Nat} {x : α} : gUp f n x n = x := if_pos rfl
theorem gUp_ne {α : Type} {f : Nat → α} {n c : Nat} {x : α} (h : c ≠ n) : gUp f n x c = f c := if_neg h
def gComm (g : gD) (r : Int32) : gD := (gMade g, gNc g + 1, gNc g, -1, gW g, gUp (gCs g) (gNc g) (gW g), gUp (gFp g) (gNc g) (nI (gHead g)), gUp (gSq g) (gNc g) (gTk g), gUp (gRc g) (gNc g) r, gKc g, gCf g)
def rOf (g : gD) : Int32 := if gTk g = -1 then 0 else gRc g (gTk g).toNatClampNeg
def rNew (g : gD) : Int32 := (((1 : Int32) <<< (nI (gNc g) &&& 31)) ||| gRc g (gHead g)) ||| rOf g
theorem JD.comm {g : gD} (h : JD g) (hn : gNc g < 12) : JD (gComm g (rNew g)) := by
  obtain ⟨a, b, c, d, e, f, k⟩ := h
  refine ⟨a, ⟨Nat.le_add_left 1 _, hn⟩, Nat.lt_succ_self _, Or.inl rfl, e, fun i hi => ?_, k⟩
  have hi' : i < gNc g + 1 := hi
  by_cases q : i = gNc g
  · have e1 : gCs (gComm g (rNew g)) i = gW g := if_pos q
    have e2 : gRc (gComm g (rNew g)) i = rNew g := if_pos q
    rw [e1, e2]
    have tk : ∀ j, gNc g < j → j < 12 → ¬ bi (rOf g) j := fun j h1 h2 => by
      unfold rOf
      rcases d with d | ⟨c', hc', d⟩
      · rw [if_pos d]; exact bi_0 (by omega)
      · rw [d, if_neg (nu_ne (by omega) (by decide)), nI_clamp (by omega)]
        exact (f c' hc').2.2.2 j (by omega) h2
    refine ⟨e, ?_, ?_, fun j h1 h2 => ?_⟩
    · exact (bi_or (by omega)).mpr (Or.inl ((bi_or (by omega)).mpr (Or.inr (f _ c).2.1)))
    · rw [q]; exact (bi_or (by omega)).mpr (Or.inl ((bi_or (by omega)).mpr (Or.inl ((bi_one (by omega) (by omega)).mpr rfl))))
    · intro z
      rcases (bi_or (by omega)).mp z with z | z
      · rcases (bi_or (by omega)).mp z with z | z
        · have := (bi_one (by omega) (by omega)).mp z; omega
        · exact (f _ c).2.2.2 j (by omega) h2 z
      · exact tk j (by omega) h2 z
  · have e1 : gCs (gComm g (rNew g)) i = gCs g i := if_neg q
    have e2 : gRc (gComm g (rNew g)) i = gRc g i := if_neg q
    rw [e1, e2]
    exact f i (by omega)
theorem op_commit {S : ab_S} (hJ : Jv S) : Op2 Sp_X5_commit [.inr (0, 0)] Sp_X6_commit [.inr (21, 0)] cd1 S := by
  obtain ⟨g, hd, hc, hm⟩ := hJ
  have hnc := hd.2.1.2
  have hsz := hc.1.2.2.2
  have hhd := hd.2.2.1
  refine ⟨Nat.le_of_ble_eq_true rfl, fun G hG => ?_⟩
  refine bl_X5_commit_0 hG S ?_
  rw [hsz]
  refine pk_lt (gNc g) 12 (fun hn => ?_) (fun hn S1' hs => ?_)
  · rw [hc.1.2.1, hc.1.2.2.1]
    refine ⟨Nat.le_of_ble_eq_true rfl, fun G2 hG2 => ?_⟩
    refine bl_X1_record_0 hG2 _ _ _ S (fun S1 e1 => ?_)
    rw [hsz] at e1 ⊢
    rw [nI_1] at e1
    rw [nI_clamp (by omega)]
    refine ⟨vp_in_nI hn (by decide), sp_copyFrom (by omega) (fun S2 o2 c4 cc => ?_)⟩
    refine bl_X1_record_27 hG2 _ _ _ _ S2 ?_
    rw [nI_clamp (by omega)]
    have i1 : vp_in (nI (gNc g)) 12 := vp_in_nI hn (by decide)
    refine ⟨i1, fun S3 e3 => ⟨i1, fun S4 e4 => ?_⟩⟩
    have r13 : ∀ c, c < gNc g → S4 13 0 c = gRc g c := fun c hcc => by rw [e4, su_o (by omega), e3, su_o (by omega), o2 13 0 (by omega), e1, su_o (by omega)]; exact (hc.2.2.1 c hcc).2.2.2
    have rch : ∀ (Q : ab_Po) (c : Nat), c < gNc g → Q (.inl (some (gRc g c))) S4 → Sp_X1_reachOf [.inr (1, 0), .inl (nI c)] S4 Q := fun Q c hcc hQ => by
      refine ⟨Nat.le_of_ble_eq_true rfl, fun G hG => ?_⟩
      refine bl_X1_reachOf_0 hG _ S4 ⟨fun z => absurd z (nu_ne (by omega) (by decide)), fun _ => ⟨vp_in_nI (by omega) (by decide), ?_⟩⟩
      rw [nI_clamp (by omega), r13 c hcc]; exact hQ
    refine rch _ (gHead g) hhd ?_
    refine bl_X1_record_58 hG2 _ _ _ _ _ _ _ S4 ?_
    have rt : ∀ (Q : ab_Po), Q (.inl (some (rOf g))) S4 → Sp_X1_reachOf [.inr (1, 0), .inl (gTk g)] S4 Q := fun Q hQ => by
      rcases hd.2.2.2.1 with d | ⟨c', hc', d⟩
      · unfold rOf at hQ
        rw [if_pos d] at hQ
        rw [d]
        refine ⟨Nat.le_of_ble_eq_true rfl, fun G hG => ?_⟩
        exact bl_X1_reachOf_0 hG _ S4 ⟨fun _ => hQ, fun z => absurd rfl z⟩
      · unfold rOf at hQ
        rw [d, if_neg (nu_ne (by omega) (by decide)), nI_clamp (by omega)] at hQ
        rw [d]
        exact rch Q c' hc' hQ
    refine rt _ ?_
    refine bl_X1_record_64 hG2 _ _ _ _ _ _ _ S4 ⟨i1, fun S5 e5 => ?_⟩
    rw [nI_clamp (by omega)] at e5
    refine bl_X5_commit_42 hG _ S5 (fun S6 e6 S7 e7 S1' hs => ?_)
    have v7 : S7 0 0 5 = nI (gNc g) := by rw [e7, su_j (by decide), e6, su_at]
    rw [v7]
    -- what the class has now
    have kO : ∀ a b, (a ≠ 0 ∧ a ≠ 1 ∧ a ≠ 11 ∧ a ≠ 12 ∧ a ≠ 13 ∧ (a < 4 ∨ 9 < a ∨ b ≠ gNc g + 1)) → S7 a b = S a b := fun a b z => by
      rw [e7, su_o (by omega), e6, su_o (by omega), e5, su_o (by omega), e4, su_o (by omega), e3, su_o (by omega), o2 a b (by omega), e1, su_o (by omega)]
    have hC : JC S7 (gComm g (rNew g)) := by
      refine ⟨⟨?_, v7, ?_, ?_⟩, ?_, fun c hcc => ?_, ?_, ?_⟩
      · rw [e7, su_j (by decide), e6, su_j (by decide), e5, su_o (by omega), e4, su_o (by omega), e3, su_o (by omega), o2 0 0 (by omega), e1, su_o (by omega)]; exact hc.1.1
      · rw [e7, su_at]; rfl
      · rw [e7, su_o (by omega), e6, su_o (by omega), e5, su_o (by omega), e4, su_o (by omega), e3, su_o (by omega), o2 1 0 (by omega), e1, su_at]; rfl
      · exact hc.2.1.rows (fun a h1 h2 => kO a 0 (by omega))
      · have hcc' : c < gNc g + 1 := hcc
        by_cases q : c = gNc g
        · have q1 : gCs (gComm g (rNew g)) c = gW g := if_pos q
          have q2 : gFp (gComm g (rNew g)) c = nI (gHead g) := if_pos q
          have q3 : gSq (gComm g (rNew g)) c = gTk g := if_pos q
          have q4 : gRc (gComm g (rNew g)) c = rNew g := if_pos q
          rw [q1, q2, q3, q4, q]
          refine ⟨?_, ?_, ?_, ?_⟩
          · have h1 : CTd S1 0 (gW g) := hc.2.1.rows (fun a h1 h2 => by rw [e1, su_o (by omega)])
            exact (h1.cp (w := gNc g + 1) hd.2.2.2.2.1 c4 cc).rows (fun a h1 h2 => by rw [e7, su_o (by omega), e6, su_o (by omega), e5, su_o (by omega), e4, su_o (by omega), e3, su_o (by omega)])
          · rw [e7, su_o (by omega), e6, su_o (by omega), e5, su_o (by omega), e4, su_o (by omega), e3, su_at]
          · rw [e7, su_o (by omega), e6, su_o (by omega), e5, su_o (by omega), e4, su_at]
          · rw [e7, su_o (by omega), e6, su_o (by omega), e5, su_at]; rfl
        · have q1 : gCs (gComm g (rNew g)) c = gCs g c := if_neg q
          have q2 : gFp (gComm g (rNew g)) c = gFp g c := if_neg q
          have q3 : gSq (gComm g (rNew g)) c = gSq g c := if_neg q
          have q4 : gRc (gComm g (rNew g)) c = gRc g c := if_neg q
          obtain ⟨b1, b2, b3, b4⟩ := hc.2.2.1 c (by omega)
          rw [q1, q2, q3, q4]
          refine ⟨b1.rows (fun a h1 h2 => kO a _ (by omega)), ?_, ?_, ?_⟩
          · rw [e7, su_o (by omega), e6, su_o (by omega), e5, su_o (by omega), e4, su_o (by omega), e3, su_j q, o2 11 0 (by omega), e1, su_o (by omega)]; exact b2
          · rw [e7, su_o (by omega), e6, su_o (by omega), e5, su_o (by omega), e4, su_j q, e3, su_o (by omega), o2 12 0 (by omega), e1, su_o (by omega)]; exact b3
          · rw [e7, su_o (by omega), e6, su_o (by omega), e5, su_j q, e4, su_o (by omega), e3, su_o (by omega), o2 13 0 (by omega), e1, su_o (by omega)]; exact b4
      · rw [kO 2 0 (by omega)]; exact hc.2.2.2.1
      · rw [kO 14 0 (by omega)]; exact hc.2.2.2.2
    have hm1 : JM S1' g := hm.congr (fun a h1 h2 => by rw [hs a (by omega)]; funext b; exact kO a b (by omega))
    have hC1 : ∀ T : ab_S, (∀ a, a < 21 → T a = S1' a) → JC T (gComm g (rNew g)) := fun T ht => hC.congr (fun a ha => by rw [ht a ha, hs a (by omega)])
    clear hG2 rch rt r13 cc c4 o2
    refine ⟨Nat.le_of_ble_eq_true rfl, fun G2 hG2 => ?_⟩
    refine bl_X6_commit_0 hG2 S1' ?_
    rw [hm1.1.2.1]
    refine ⟨fun z => by have := (nI_eq (b := 12) (by omega) (by decide)).mp z; omega, fun _ S2 e2 => th_g' e2 ?_⟩
    have s6 : S2 21 0 6 = nI (gNc g) := by rw [e2, su_j (by decide)]; exact hm1.1.2.1
    rw [s6]
    refine sp_m_copy (u := 12) (by decide) (by omega) (by omega) (fun S3 o3 cc => ?_)
    have f21 : S3 21 0 = S2 21 0 := o3.1 21 0 (by omega)
    have t6 : S3 21 0 6 = nI (gNc g) := by rw [f21]; exact s6
    have t10 : S3 21 0 10 = nI (gHead g) := by rw [f21, e2, su_j (by decide)]; exact hm1.1.2.2.1
    have t11 : S3 21 0 11 = gTk g := by rw [f21, e2, su_j (by decide)]; exact hm1.1.2.2.2
    refine bl_X6_commit_37 hG2 S3 ?_
    rw [t6, t10, nI_clamp (by omega)]
    refine ⟨i1, fun S4 e4 => ?_⟩
    have u21 : S4 21 0 = S3 21 0 := by rw [e4, su_o (by omega)]
    rw [u21, t6, t11, nI_clamp (by omega)]
    refine ⟨i1, fun S5 e5 => ?_⟩
    have w21 : S5 21 0 = S3 21 0 := by rw [e5, su_o (by omega), u21]
    rw [w21, t6, t10, t11, nI_clamp (by omega), nI_clamp (by omega)]
    have r28 : ∀ c, c < gNc g → S5 28 0 c = gRc g c := fun c hcc => by rw [e5, su_o (by omega), e4, su_o (by omega), o3.1 28 0 (by omega), e2, su_o (by omega)]; exact (hm1.2.2.1 c hcc).2.2.2
    rw [r28 _ hhd]
    have fin : ∀ S6 S7 S8 S9 : ab_S, S6 = ab_su S5 28 0 (gNc g) (rNew g) → S7 = ab_su S6 21 0 10 (S6 21 0 6) → S8 = ab_su S7 21 0 11 (-1) → S9 = ab_su S8 21 0 6 (S8 21 0 6 + 1) → Jv S9 ∧ S9 21 0 0 = 0 ∧ ∀ x, some (nI (gNc g)) = some x → (.inl (some (S9 21 0 10)) : Option Int32 ⊕ Nat) = .inl (some x) := fun S6 S7 S8 S9 e6 e7 e8 e9 => by
      have x6 : S6 21 0 = S3 21 0 := by rw [e6, su_o (by omega), w21]
      have n6 : S8 21 0 6 = nI (gNc g) := by rw [e8, su_j (by decide), e7, su_j (by decide), x6]; exact t6
      rw [n6, nI_1] at e9
      rw [x6, t6] at e7
      have v10 : S9 21 0 10 = nI (gNc g) := by rw [e9, su_j (by decide), e8, su_j (by decide), e7, su_at]
      have rr : ∀ a b, a ≠ 21 → a ≠ 28 → a ≠ 27 → a ≠ 26 → S9 a b = S3 a b := fun a b h1 h2 h3 h4 => by rw [e9, su_o (by omega), e8, su_o (by omega), e7, su_o (by omega), e6, su_o (by omega), e5, su_o (by omega), e4, su_o (by omega)]
      refine ⟨⟨gComm g (rNew g), hd.comm hn, ?_, ?_⟩, ?_, fun x hx => by cases hx; rw [v10]⟩
      · exact hC1 S9 (fun a ha => by funext b; rw [rr a b (by omega) (by omega) (by omega) (by omega), o3.1 a b (by omega), e2, su_o (by omega)])
      · refine ⟨⟨?_, ?_, v10, ?_⟩, ?_, fun c hcc => ?_, ?_, ?_⟩
        · rw [e9, su_j (by decide), e8, su_j (by decide), e7, su_j (by decide), x6, f21, e2, su_j (by decide)]; exact hm1.1.1
        · rw [e9, su_at]; rfl
        · rw [e9, su_j (by decide), e8, su_at]; rfl
        · have h2 : MTd S2 12 (gW g) := by rw [e2]; exact MTd.su hm1.2.1
          exact (h2.offC hd.2.2.2.2.1 (by omega) o3).rows (fun a h1 h2 => rr a 0 (by omega) (by omega) (by omega) (by omega))
        · have hcc' : c < gNc g + 1 := hcc
          by_cases q : c = gNc g
          · have q1 : gCs (gComm g (rNew g)) c = gW g := if_pos q
            have q2 : gFp (gComm g (rNew g)) c = nI (gHead g) := if_pos q
            have q3 : gSq (gComm g (rNew g)) c = gTk g := if_pos q
            have q4 : gRc (gComm g (rNew g)) c = rNew g := if_pos q
            rw [q1, q2, q3, q4, q]
            refine ⟨?_, ?_, ?_, ?_⟩
            · have h2 : MTd S2 12 (gW g) := by rw [e2]; exact MTd.su hm1.2.1
              exact (MTd.cp hd.2.2.2.2.1 h2 cc).rows (fun a h1 h2 => rr a 0 (by omega) (by omega) (by omega) (by omega))
            · rw [e9, su_o (by omega), e8, su_o (by omega), e7, su_o (by omega), e6, su_o (by omega), e5, su_o (by omega), e4, su_at]
            · rw [e9, su_o (by omega), e8, su_o (by omega), e7, su_o (by omega), e6, su_o (by omega), e5, su_at]
            · rw [e9, su_o (by omega), e8, su_o (by omega), e7, su_o (by omega), e6, su_at]
          · have q1 : gCs (gComm g (rNew g)) c = gCs g c := if_neg q
            have q2 : gFp (gComm g (rNew g)) c = gFp g c := if_neg q
            have q3 : gSq (gComm g (rNew g)) c = gSq g c := if_neg q
            have q4 : gRc (gComm g (rNew g)) c = gRc g c := if_neg q
            have hcn : c < gNc g := by omega
            obtain ⟨b1, b2, b3, b4⟩ := hm1.2.2.1 c hcn
            rw [q1, q2, q3, q4]
            refine ⟨?_, ?_, ?_, ?_⟩
            · have h2 : MTd S2 c (gCs g c) := by rw [e2]; exact MTd.su b1
              exact (h2.offC (hd.2.2.2.2.2.1 c hcn).1 (by omega) o3).rows (fun a h1 h2 => rr a 0 (by omega) (by omega) (by omega) (by omega))
            · rw [e9, su_o (by omega), e8, su_o (by omega), e7, su_o (by omega), e6, su_o (by omega), e5, su_o (by omega), e4, su_j q, o3.1 26 0 (by omega), e2, su_o (by omega)]; exact b2
            · rw [e9, su_o (by omega), e8, su_o (by omega), e7, su_o (by omega), e6, su_o (by omega), e5, su_j q, e4, su_o (by omega), o3.1 27 0 (by omega), e2, su_o (by omega)]; exact b3
            · rw [e9, su_o (by omega), e8, su_o (by omega), e7, su_o (by omega), e6, su_j q, e5, su_o (by omega), e4, su_o (by omega), o3.1 28 0 (by omega), e2, su_o (by omega)]; exact b4
        · rw [e9, su_j (by decide), e8, su_j (by decide), e7, su_j (by decide), x6, f21, e2, su_j (by decide)]; exact hm1.2.2.2.1
        · rw [rr 29 0 (by omega) (by omega) (by omega) (by omega), o3.1 29 0 (by omega), e2, su_o (by omega)]; exact hm1.2.2.2.2
      · rw [e9, su_j (by decide), e8, su_j (by decide), e7, su_j (by decide), x6, f21, e2, su_at]
    refine ⟨vp_in_nI (by omega) (by decide), fun h0 => ?_, fun h0 => ⟨i1, fun S6 e6 S7 e7 S8 e8 S9 e9 => fin S6 S7 S8 S9 ?_ e7 e8 e9⟩⟩
    · rcases hd.2.2.2.1 with d | ⟨c', hc', d⟩
      · rw [d] at h0; exact absurd h0 (by decide)
      · refine ⟨by rw [d]; exact vp_in_nI (by omega) (by decide), i1, fun S6 e6 S7 e7 S8 e8 S9 e9 => fin S6 S7 S8 S9 ?_ e7 e8 e9⟩
        rw [e6]
        unfold rNew rOf
        rw [d, if_neg (nu_ne (by omega) (by decide)), nI_clamp (by omega), r28 c' hc']
    · rw [e6]
      unfold rNew rOf
      rcases hd.2.2.2.1 with d | ⟨c', hc', d⟩
      · rw [if_pos d]
      · rw [d] at h0; exact absurd (nI_pos' (by omega)) h0
  · have e12 : gNc g = 12 := by omega
    have hm1 := jq hm hs
    refine ⟨Nat.le_of_ble_eq_true rfl, fun G2 hG2 => ?_⟩
    refine bl_X6_commit_0 hG2 S1' ?_
    rw [hm1.1.2.1, e12]
    exact ⟨fun _ S2 e2 => th_b' e2 (by decide) (by rw [e2]; exact ⟨Jv_thr hd hc hm hs 1, su_at _ _ _ _ _⟩), fun z => absurd rfl z⟩
/-! checkout -/
def gOut (g : gD) (c : Nat) : gD := (gMade g, gNc g, c, -1, gCs g c, gCs g, gFp g, gSq g, gRc g, gKc g, gCf g)
theorem op_checkout {S : ab_S} {x1 : Int32} (hJ : Jv S) : Op2 Sp_X5_checkout [.inr (0, 0), .inl x1] Sp_X6_checkout [.inr (21, 0), .inl x1] cd1 S := by
  obtain ⟨g, hd, hc, hm⟩ := hJ
  have hnc := hd.2.1.2
  have hsz := hc.1.2.2.2
  refine ⟨Nat.le_of_ble_eq_true rfl, fun G hG => ?_⟩
  refine bl_X5_checkout_0 hG x1 S ?_
  rcases in_or x1 (n := gNc g) (by omega) with ⟨c, hcn, rfl⟩ | h1
  · refine rc_yes hsz hnc hcn ?_
    refine bl_X5_checkout_5 hG _ S ⟨vp_in_nI (by omega) (by decide), ?_⟩
    rw [nI_clamp (by omega)]
    refine sp_copyFrom (by omega) (fun S1 o1 c4 cc => ?_)
    refine bl_X5_checkout_21 hG _ S1 (fun S2 e2 S3 e3 S1' hs => ?_)
    have kO : ∀ a b, (a ≠ 0 ∧ (a < 4 ∨ 9 < a ∨ b ≠ 0)) → S3 a b = S a b := fun a b z => by rw [e3, su_o (by omega), e2, su_o (by omega), o1 a b (by omega)]
    have hC : JC S3 (gOut g c) := by
      refine ⟨⟨?_, ?_, ?_, ?_⟩, ?_, fun i hi => ?_, ?_, ?_⟩
      · rw [e3, su_j (by decide), e2, su_j (by decide), o1 0 0 (by omega)]; exact hc.1.1
      · rw [e3, su_j (by decide), e2, su_at]; rfl
      · rw [e3, su_at]; rfl
      · rw [kO 1 0 (by omega)]; exact hsz
      · exact ((hc.2.2.1 c hcn).1.cp (hd.2.2.2.2.2.1 c hcn).1 c4 cc).rows (fun a h1 h2 => by rw [e3, su_o (by omega), e2, su_o (by omega)])
      · obtain ⟨b1, b2, b3, b4⟩ := hc.2.2.1 i hi
        exact ⟨b1.rows (fun a h1 h2 => kO a _ (by omega)), by rw [kO 11 0 (by omega)]; exact b2, by rw [kO 12 0 (by omega)]; exact b3, by rw [kO 13 0 (by omega)]; exact b4⟩
      · rw [kO 2 0 (by omega)]; exact hc.2.2.2.1
      · rw [kO 14 0 (by omega)]; exact hc.2.2.2.2
    have hm1 : JM S1' g := hm.congr (fun a h1 h2 => by rw [hs a (by omega)]; funext b; exact kO a b (by omega))
    refine ⟨Nat.le_of_ble_eq_true rfl, fun G2 hG2 => ?_⟩
    refine bl_X6_checkout_0 hG2 _ S1' (ic_yes hm1.1.2.1 hnc hcn ?_)
    refine bl_X6_checkout_6 hG2 _ _ S1' ⟨fun z => absurd z (by decide), fun _ S4 e4 => th_g e4 ?_⟩
    refine sp_m_copy (w := 12) (by omega) (by decide) (by omega) (fun S5 o5 cc5 => ?_)
    refine bl_X6_checkout_31 hG2 _ S5 (fun S6 e6 S7 e7 => ?_)
    have f21 : S5 21 0 = S4 21 0 := o5.1 21 0 (by omega)
    have rr : ∀ a b, a ≠ 21 → S7 a b = S5 a b := fun a b h1 => by rw [e7, su_o (by omega), e6, su_o (by omega)]
    have hr4 : ∀ a b, a ≠ 21 → S4 a b = S1' a b := fun a b h1 => by rw [e4, su_o (by omega)]
    refine ⟨⟨gOut g c, ?_, ?_, ?_⟩, ?_, fun x hx => by cases hx⟩
    · obtain ⟨d1, d2, d3, d4, d5, d6, d7⟩ := hd
      exact ⟨d1, d2, hcn, Or.inl rfl, (d6 c hcn).1, d6, d7⟩
    · exact hC.congr (fun a ha => by rw [← hs a (by omega)]; funext b; rw [rr a b (by omega), o5.1 a b (by omega), hr4 a b (by omega)])
    · refine ⟨⟨?_, ?_, ?_, ?_⟩, ?_, fun i hi => ?_, ?_, ?_⟩
      · rw [e7, su_j (by decide), e6, su_j (by decide), f21, e4, su_j (by decide)]; exact hm1.1.1
      · rw [e7, su_j (by decide), e6, su_j (by decide), f21, e4, su_j (by decide)]; exact hm1.1.2.1
      · rw [e7, su_j (by decide), e6, su_at]; rfl
      · rw [e7, su_at]; rfl
      · have h2 : MTd S4 c (gCs g c) := by rw [e4]; exact MTd.su (hm1.2.2.1 c hcn).1
        exact (MTd.cp (hd.2.2.2.2.2.1 c hcn).1 h2 cc5).rows (fun a h1 h2 => rr a 0 (by omega))
      · have hi' : i < gNc g := hi
        obtain ⟨b1, b2, b3, b4⟩ := hm1.2.2.1 i hi
        have h2 : MTd S4 i (gCs g i) := by rw [e4]; exact MTd.su b1
        refine ⟨(h2.offC (hd.2.2.2.2.2.1 i hi).1 (by omega) o5).rows (fun a h1 h2 => rr a 0 (by omega)), ?_, ?_, ?_⟩
        · rw [rr 26 0 (by omega), o5.1 26 0 (by omega), hr4 26 0 (by omega)]; exact b2
        · rw [rr 27 0 (by omega), o5.1 27 0 (by omega), hr4 27 0 (by omega)]; exact b3
        · rw [rr 28 0 (by omega), o5.1 28 0 (by omega), hr4 28 0 (by omega)]; exact b4
      · rw [e7, su_j (by decide), e6, su_j (by decide), f21, e4, su_j (by decide)]; exact hm1.2.2.2.1
      · rw [rr 29 0 (by omega), o5.1 29 0 (by omega), hr4 29 0 (by omega)]; exact hm1.2.2.2.2
    · rw [e7, su_j (by decide), e6, su_j (by decide), f21, e4, su_at]
  · refine rc_no hsz h1 (fun S1' hs => ?_)
    have hm1 := jq hm hs
    refine ⟨Nat.le_of_ble_eq_true rfl, fun G2 hG2 => ?_⟩
    refine bl_X6_checkout_0 hG2 _ S1' (ic_no hm1.1.2.1 h1 ?_)
    refine bl_X6_checkout_6 hG2 _ _ S1' ⟨fun _ S2 e2 => th_b e2 (by decide) ?_, fun z => absurd rfl z⟩
    rw [e2]; exact ⟨Jv_thr hd hc hm hs 1, su_at _ _ _ _ _⟩
