theorem sp_m_move {Q : ab_Po} {S : ab_S} {made : Nat} {d : sD} {x1 x2 x3 : Int32} (hk : Okd made d) (h : MTd S 12 d)
    (h0 : (∀ s, s < d.1 → x1 ≠ nI (d.2.1 s)) → ∀ S', OffT S S' → S' 21 0 0 = 1 → S' 21 0 5 = S 21 0 5 → MTd S' 12 d → Q (.inl none) S') (h0' : ∀ s, s < d.1 → x1 = nI (d.2.1 s) → (∀ q, q < d.1 → x2 ≠ nI (d.2.1 q)) → ∀ S', OffT S S' → S' 21 0 0 = 1 → S' 21 0 5 = S 21 0 5 → MTd S' 12 d → Q (.inl none) S')
    (h1 : ∀ s q e, s < d.1 → x1 = nI (d.2.1 s) → q < d.1 → x2 = nI (d.2.1 q) → En d.1 d.2.2.1 s e → s ≤ q → q < e → ∀ S', OffT S S' → S' 21 0 0 = 2 → S' 21 0 5 = S 21 0 5 → MTd S' 12 d → Q (.inl none) S')
    (h2 : ∀ s q e, 0 < s → s < d.1 → x1 = nI (d.2.1 s) → q < d.1 → x2 = nI (d.2.1 q) → En d.1 d.2.2.1 s e → (q < s ∨ e ≤ q) → (∀ k, k ≤ ck (delP d.2.2.1 s (e - s)) (dnP s (e - s) q) (d.1 - (e - s)) → x3 ≠ nI k) → ∀ S', OffT S S' → S' 21 0 0 = 3 → S' 21 0 5 = S 21 0 5 → MTd S' 12 d → Q (.inl none) S')
    (h3 : ∀ s q e k S', 0 < s → s < d.1 → x1 = nI (d.2.1 s) → q < d.1 → x2 = nI (d.2.1 q) → En d.1 d.2.2.1 s e → (q < s ∨ e ≤ q) → k ≤ ck (delP d.2.2.1 s (e - s)) (dnP s (e - s) q) (d.1 - (e - s)) → x3 = nI k → OffT S S' → S' 21 0 0 = 0 → S' 21 0 5 = S 21 0 5 → (∀ sl, Slt (d.1 - (e - s)) (delP d.2.2.1 s (e - s)) (dnP s (e - s) q) k sl → MTd S' 12 (mvD d s (e - s) sl (dnP s (e - s) q))) → Q (.inl none) S') : Sp_X6_move [.inr (21, 0), .inl x1, .inl x2, .inl x3] S Q := by
  refine ⟨Nat.le_of_ble_eq_true rfl, fun G hG => ?_⟩
  have hS := hk.1
  have hn := hS.2.1
  have hL := hS.2.2.2.2.2
  have bad : ∀ (S' : ab_S) (c : Int32) (A : Prop), S' = ab_su S 21 0 0 c → ¬ c ≤ 0 → (∀ S', OffT S S' → S' 21 0 0 = c → S' 21 0 5 = S 21 0 5 → MTd S' 12 d → Q (.inl none) S') → (S' 21 0 0 ≤ 0 → A) ∧ (¬ S' 21 0 0 ≤ 0 → Q (.inl none) S') := fun S' c A e hc hq => by
    subst e
    rw [su_at]
    exact ⟨fun z => absurd z hc, fun _ => hq _ (OffT.su (by decide)) (su_at _ _ _ _ _) (su_j (by decide)) (MTd.su h)⟩
  refine bl_X6_move_0 hG x1 x2 x3 S (sp_m_hasIn (u := 12) (by decide) hk h (fun z => ?_) (fun s hs e1 => ?_))
  · exact bl_X6_move_8 hG x1 x2 x3 _ S ⟨fun _ S1 e2 => bad S1 1 _ e2 (by decide) (h0 z), fun y => absurd rfl y⟩
  refine bl_X6_move_8 hG x1 x2 x3 _ S ⟨fun y => absurd y (by decide), fun _ => sp_m_hasIn (u := 12) (by decide) hk h (fun z => ?_) (fun q hq e2 => ?_)⟩
  · exact bl_X6_move_18 hG x1 x2 x3 _ S ⟨fun _ S1 e2 => bad S1 1 _ e2 (by decide) (h0' s hs e1 z), fun y => absurd rfl y⟩
  obtain ⟨e, he⟩ := En_ex (pp := d.2.2.1) hs
  have he1 := he.1
  have he2 := he.2.1
  refine bl_X6_move_18 hG x1 x2 x3 _ S ⟨fun y => absurd y (by decide), fun _ => ⟨fun y S1 e3 => bad S1 2 _ e3 (by decide) ?_, fun y => ?_⟩⟩
  · have s0 : s = 0 := hS.2.2.2.2.1 s 0 hs hS.1 (by
      have o24 := hS.2.2.2.1 s hs
      rw [hS.2.2.1]
      exact (nI_eq (by omega) (by omega)).mp (e1.symm.trans y))
    subst s0
    have := En_0 he
    exact h1 0 q e hs e1 hq e2 he (by omega) (by omega)
  have s0 : 0 < s := by
    rcases Nat.eq_zero_or_pos s with w | w
    · exfalso; subst w; rw [hS.2.2.1] at e1; exact y e1
    · exact w
  rw [e1, e2]
  refine sp_m_isAt (u := 12) hS h.2.1.1 (fun i i0 hi => (h.2.2.1 i i0 hi).1) (by decide) hq hs he ?_
  refine bl_X6_move_37 hG _ _ x3 _ S ?_
  by_cases c : s ≤ q ∧ q < e
  · rw [if_pos c]
    exact ⟨fun z => absurd z (by decide), fun _ S2 e3 => bad S2 2 _ e3 (by decide) (h1 s q e hs e1 hq e2 he c.1 c.2)⟩
  rw [if_neg c]
  refine ⟨fun _ S1 e3 => ?_, fun z => absurd rfl z⟩
  have hqo : q < s ∨ e ≤ q := by omega
  have hT1 : MTd S1 12 d := by rw [e3]; exact MTd.su h
  have of1 : OffT S S1 := by rw [e3]; exact OffT.su (by decide)
  have t1 : S1 21 0 0 = 0 := by rw [e3, su_at]
  have m1 : S1 21 0 5 = S 21 0 5 := by rw [e3, su_j (by decide)]
  rw [t1]
  refine ⟨fun _ => ?_, fun z => absurd (by decide) z⟩
  refine sp_m_children (u := 12) hS hT1 (by decide) hq ?_
  have hK := ck_del_hi hL s0 he hqo d.1 he2 (Nat.le_refl _)
  have o24s := hS.2.2.2.1 s hs
  have o24q := hS.2.2.2.1 q hq
  have hps := hL.1 s s0 hs
  have o24p := hS.2.2.2.1 (d.2.2.1 s) (by omega)
  have hckb := ck_le (pp := delP d.2.2.1 s (e - s)) (s := dnP s (e - s) q) (d.1 - (e - s))
  refine bl_X6_move_63 hG _ _ x3 _ S1 ?_
  rw [m288, nI_clamp (by omega), (hT1.2.2.1 s s0 hs).1, hK]
  have bad3 : (∀ k, k ≤ ck (delP d.2.2.1 s (e - s)) (dnP s (e - s) q) (d.1 - (e - s)) → x3 ≠ nI k) → ∀ S3, S3 = ab_su S1 21 0 0 3 → Q (.inl none) S3 := fun z S3 e4 => by
    rw [e4]
    exact h2 s q e s0 hs e1 hq e2 he hqo z _ (of1.tr (OffT.su (by decide))) (su_at _ _ _ _ _) (by rw [su_j (by decide)]; exact m1) (MTd.su hT1)
  have fin : ∀ (x4 : Int32) (k : Nat), k ≤ ck (delP d.2.2.1 s (e - s)) (dnP s (e - s) q) (d.1 - (e - s)) → x3 = nI k → Sp_X6_unhang [.inr (21, 0), .inl (12 : Int32), .inl (nI (d.2.1 s))] S1 (ab_back Q G 108 [some (.inr (21, 0)), some (.inl (nI (d.2.1 s))), some (.inl (nI (d.2.1 q))), some (.inl x3), some (.inl x4)] [] 0) := by
    intro x4 k hk2 e4
    refine sp_m_unhang (u := 12) (by decide) o24s (fun S2 S0 es a1 a2 a3 a4 a5 => ?_)
    refine bl_X6_move_108 hG _ _ _ _ S2 ?_
    rw [e4]
    refine sp_m_hang (u := 12) (by decide) o24s (fun S3 b1 b2 b3 b4 b5 b6 b7 => ?_)
    refine bl_X6_move_117 hG _ _ _ _ S3 ?_
    refine h3 s q e k S3 s0 hs e1 hq e2 he hqo hk2 e4 (of1.tr ⟨fun a b z => ?_, fun a j z1 z2 z3 => ?_, fun f z => ?_⟩) ?_ ?_ (fun sl hsl => ?_)
    · rw [b1 a b (by omega), a1 a b (by omega)]
    · rcases (by omega : a = 22 ∨ a = 23 ∨ a = 24 ∨ a = 25) with w | w | w | w
      · rw [w, (b2 j (by omega)).1, a2 j (by omega)]
      · rw [w, b1 23 0 (by omega), a1 23 0 (by omega)]
      · rw [w, (b2 j (by omega)).2, a1 24 0 (by omega)]
      · rw [w, b6 j (by omega), a4 j (by omega)]
    · rw [b1 21 0 (by omega), a1 21 0 (by omega)]
    · rw [b1 21 0 (by omega), a1 21 0 (by omega)]; exact t1
    · rw [b1 21 0 (by omega), a1 21 0 (by omega)]; exact m1
    · exact TM_mv hS hT1 s0 hs he hq hqo hk2 hsl es a1 a2 a5 a3 b1 b2 b3 b4 b5 b7
  have choose : ∀ (x4 : Int32), (x3 < 0 → ∀ S3, S3 = ab_su S1 21 0 0 3 → Q (.inl none) S3) ∧ (¬ x3 < 0 → (x3 ≤ nI (ck (delP d.2.2.1 s (e - s)) (dnP s (e - s) q) (d.1 - (e - s))) → Sp_X6_unhang [.inr (21, 0), .inl (12 : Int32), .inl (nI (d.2.1 s))] S1 (ab_back Q G 108 [some (.inr (21, 0)), some (.inl (nI (d.2.1 s))), some (.inl (nI (d.2.1 q))), some (.inl x3), some (.inl x4)] [] 0)) ∧ (¬ x3 ≤ nI (ck (delP d.2.2.1 s (e - s)) (dnP s (e - s) q) (d.1 - (e - s))) → ∀ S4, S4 = ab_su S1 21 0 0 3 → Q (.inl none) S4)) := by
    intro x4
    refine ⟨fun z => bad3 (fun k hk2 e4 => by rw [e4] at z; exact nI_pos (by omega) z), fun z => ?_⟩
    obtain ⟨k, hk31, ek⟩ := nI_of z
    refine ⟨fun w => fin x4 k ?_ ek, fun w => bad3 (fun j hj e4 => w ?_)⟩
    · rw [ek] at w; exact (nI_leI hk31 (by omega)).mp w
    · rw [e4]; exact nI_le hj (by omega)
  refine ⟨vp_in_nI (by omega) (by decide), pk_eq (d.2.1 (d.2.2.1 s)) (d.2.1 q) (fun z => ?_) (fun z => ?_)⟩
  · have eq : q = d.2.2.1 s := (hS.2.2.2.2.1 _ _ (by omega) hq z).symm
    rw [if_pos eq, nI_pred]
    exact choose _
  · have ne : q ≠ d.2.2.1 s := fun y => z (by rw [y])
    rw [if_neg ne, Nat.add_zero, Int32.sub_zero]
    exact choose _
theorem sp_m_relabel {Q : ab_Po} {S : ab_S} {made : Nat} {d : sD} {x1 x2 : Int32} (hk : Okd made d) (h : MTd S 12 d)
    (h0 : (∀ s, s < d.1 → x1 ≠ nI (d.2.1 s)) → Q (.inl none) (ab_su S 21 0 0 1)) (h1 : ∀ s, s < d.1 → x1 = nI (d.2.1 s) → (∀ c, c ≤ 5 → x2 ≠ nI c) → Q (.inl none) (ab_su S 21 0 0 2))
    (h2 : ∀ s c S', s < d.1 → x1 = nI (d.2.1 s) → c ≤ 5 → x2 = nI c → OffT S S' → S' 21 0 0 = 0 → S' 21 0 5 = S 21 0 5 → MTd S' 12 (d.1, d.2.1, d.2.2.1, upd d.2.2.2 (d.2.1 s) x2) → Q (.inl none) S') : Sp_X6_relabel [.inr (21, 0), .inl x1, .inl x2] S Q := by
  refine ⟨Nat.le_of_ble_eq_true rfl, fun G hG => ?_⟩
  have hS := hk.1
  have bad : ∀ (S' : ab_S) (c : Int32) (A : Prop), S' = ab_su S 21 0 0 c → ¬ c = 0 → Q (.inl none) (ab_su S 21 0 0 c) → (S' 21 0 0 = 0 → A) ∧ (¬ S' 21 0 0 = 0 → Q (.inl none) S') := fun S' c A e hc hq => by
    subst e
    rw [su_at]
    exact ⟨fun z => absurd z hc, fun _ => hq⟩
  refine bl_X6_relabel_0 hG x1 x2 S (sp_m_hasIn (u := 12) (by decide) hk h (fun z => ?_) (fun s hs e1 => ?_))
  · exact bl_X6_relabel_8 hG x1 x2 _ S ⟨fun _ S7 e7 => bad S7 1 _ e7 (by decide) (h0 z), fun y => absurd rfl y⟩
  have o24 := hS.2.2.2.1 s hs
  refine bl_X6_relabel_8 hG x1 x2 _ S ⟨fun y => absurd y (by decide), fun _ => ⟨fun y S1 e2 => bad S1 2 _ e2 (by decide) (h1 s hs e1 (fun c hc e => by rw [e] at y; exact nI_pos (by omega) y)), fun y => ?_⟩⟩
  obtain ⟨c, hc31, ec⟩ := nI_of y
  rw [ec]
  refine pk_le c 5 (fun hc S3 e3 => ?_) (fun hc S5 e5 => bad S5 2 _ e5 (by decide) (h1 s hs e1 (fun j hj e => by have := (nI_eq (by omega) (by omega)).mp (ec.symm.trans e); omega)))
  have t3 : S3 21 0 0 = 0 := by rw [e3, su_at]
  rw [t3, e1, m288, nI_clamp (by omega)]
  refine ⟨fun _ => ⟨vp_in_nI (by omega) (by decide), fun S4 e4 => ?_⟩, fun z => absurd rfl z⟩
  have o4 : ∀ a b, (a ≠ 23 ∨ b ≠ 0) → S4 a b = S3 a b := fun a b z => by rw [e4]; exact su_o z
  have hT3 : MTd S3 12 d := by rw [e3]; exact MTd.su h
  refine h2 s c S4 hs e1 hc ec ?_ ?_ ?_ ?_
  · rw [e4, e3]; exact (OffT.su (by decide)).tr (OffT.row (by decide) (by omega))
  · rw [o4 21 0 (by omega)]; exact t3
  · rw [o4 21 0 (by omega), e3, su_j (by decide)]
  · refine ⟨fun i hi => ⟨?_, ?_⟩, ?_, fun i i0 hi => ?_, fun v hv hno => ?_⟩
    · rw [o4 22 0 (by omega)]; exact (hT3.1 i hi).1
    · show S4 23 0 (24 * 12 + d.2.1 i) = upd d.2.2.2 (d.2.1 s) x2 (d.2.1 i)
      by_cases z : d.2.1 i = d.2.1 s
      · rw [z, pk_us, e4, su_at, ec]
      · rw [pk_un z, e4, su_j (by omega)]; exact (hT3.1 i hi).2
    · rw [o4 24 0 (by omega), o4 25 0 (by omega)]; exact hT3.2.1
    · rw [o4 24 0 (by omega), o4 25 0 (by omega)]; exact hT3.2.2.1 i i0 hi
    · rw [o4 22 0 (by omega)]; exact hT3.2.2.2 v hv hno
