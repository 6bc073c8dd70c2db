/-! The class's move; the model's calls on the working tree. -/
theorem sp_c_move {Q : ab_Po} {S : ab_S} {made : Nat} {d : sD} {x1 x2 x3 : Int32} (hk : Okd made d) (h : CTd S 0 d)
    (h0 : (∀ s, s < d.1 → x1 ≠ nI (d.2.1 s)) → Q (.inr 0) S) (h0' : ∀ s, s < d.1 → x1 = nI (d.2.1 s) → (∀ q, q < d.1 → x2 ≠ nI (d.2.1 q)) → Q (.inr 0) S)
    (h1 : ∀ s q e, s < d.1 → x1 = nI (d.2.1 s) → q < d.1 → x2 = nI (d.2.1 q) → En d.1 d.2.2.1 s e → s ≤ q → q < e → Q (.inr 2) S)
    (h2 : ∀ s q e, 0 < s → s < d.1 → x1 = nI (d.2.1 s) → q < d.1 → x2 = nI (d.2.1 q) → En d.1 d.2.2.1 s e → (q < s ∨ e ≤ q) → (∀ k, k ≤ ck (delP d.2.2.1 s (e - s)) (dnP s (e - s) q) (d.1 - (e - s)) → x3 ≠ nI k) → Q (.inr 1) S)
    (h3 : ∀ s q e k sl S', 0 < s → s < d.1 → x1 = nI (d.2.1 s) → q < d.1 → x2 = nI (d.2.1 q) → En d.1 d.2.2.1 s e → (q < s ∨ e ≤ q) → k ≤ ck (delP d.2.2.1 s (e - s)) (dnP s (e - s) q) (d.1 - (e - s)) → x3 = nI k → Slt (d.1 - (e - s)) (delP d.2.2.1 s (e - s)) (dnP s (e - s) q) k sl → Off S S' 0 → Okd made (mvD d s (e - s) sl (dnP s (e - s) q)) → CTd S' 0 (mvD d s (e - s) sl (dnP s (e - s) q)) → Q (.inl none) S') : Sp_X5_move [.inr (0, 0), .inl x1, .inl x2, .inl x3] S Q := by
  refine ⟨Nat.le_of_ble_eq_true rfl, fun G hG => ?_⟩
  have hS := hk.1
  have hn := hS.2.1
  have hL := hS.2.2.2.2.2
  refine bl_X5_move_0 hG x1 x2 x3 S (sp_c_reqNode hk h h0 (fun s hs e1 => ?_))
  refine bl_X5_move_5 hG x1 x2 x3 S (sp_c_reqNode hk h (h0' s hs e1) (fun q hq e2 => ?_))
  refine bl_X5_move_10 hG x1 x2 x3 S ?_
  obtain ⟨e, he⟩ := En_ex (pp := d.2.2.1) hs
  have he1 := he.1
  have he2 := he.2.1
  rw [e1, e2]
  refine sp_isWithin (h.1.rw hS) (h.1.pa hS) hq hs he ?_
  refine bl_X5_move_19 hG _ _ x3 _ S ?_
  by_cases c : s ≤ q ∧ q < e
  · rw [if_pos c]
    exact ⟨fun z => absurd z (by decide), fun _ => h1 s q e hs e1 hq e2 he c.1 c.2⟩
  · rw [if_neg c]
    refine ⟨fun _ => ?_, fun z => absurd rfl z⟩
    have hqo : q < s ∨ e ≤ q := by omega
    have s0 : 0 < s := by
      rcases Nat.eq_zero_or_pos s with y | y
      · exfalso; subst y; have := En_0 he; omega
      · exact y
    refine sp_childCount (h.1.rw hS) (h.1.pa hS) hq ?_
    have hK := ck_del_hi hL s0 he hqo d.1 he2 (Nat.le_refl _)
    have o24s := hS.2.2.2.1 s hs
    have o24q := hS.2.2.2.1 q hq
    have hps := hL.1 s s0 hs
    have o24p := hS.2.2.2.1 (d.2.2.1 s) (by omega)
    have hckb := ck_le (pp := delP d.2.2.1 s (e - s)) (s := dnP s (e - s) q) (d.1 - (e - s))
    refine bl_X5_move_41 hG _ _ x3 _ _ S ?_
    rw [nI_clamp (show d.2.1 s < 2 ^ 31 by omega), h.1.2.2.2 s s0 hs, hK]
    have fin : Sp_X5_requirePlace [.inl x3, .inl (nI (ck (delP d.2.2.1 s (e - s)) (dnP s (e - s) q) (d.1 - (e - s))))] S (ab_back Q G 63 [some (.inr (0, 0)), some (.inl (nI (d.2.1 s))), some (.inl (nI (d.2.1 q))), some (.inl x3)] [] 3) := by
      refine sp_c_reqPlace (by omega) (fun z => h2 s q e s0 hs e1 hq e2 he hqo z) (fun k hk2 e3 => ?_)
      refine bl_X5_move_63 hG _ _ x3 S ?_
      rw [e3]
      refine sp_transplant hS h.1 h.2 s0 hs he hq hqo hk2 (fun S' sl hsl w1 w2 w3 w4 => ?_)
      refine bl_X5_move_73 hG _ _ _ S' (h3 s q e k sl S' s0 hs e1 hq e2 he hqo hk2 e3 hsl w1 ⟨w2, fun i hi => ?_⟩ ⟨w3, w4⟩)
      have hslv := hsl.slv (delP_Lp hL s0 he)
      have hi' : i < d.1 - (e - s) + (e - s) := by have : i < d.1 := hi; omega
      show mvO d.2.1 s (e - s) sl i < made ∧ ∃ c, c ≤ 5 ∧ d.2.2.2 (mvO d.2.1 s (e - s) sl i) = nI c
      unfold mvO
      by_cases z : sl ≤ i ∧ i < sl + (e - s)
      · rw [insO_in z.1 z.2]; exact hk.2 _ (by omega)
      · obtain ⟨j, hj, rfl, -⟩ := up_or hslv.2.1 hi' z
        rw [insO_up]
        unfold delO
        split
        · exact hk.2 j (by omega)
        · exact hk.2 _ (by omega)
    refine ⟨vp_in_nI o24s (by decide), pk_eq (d.2.1 (d.2.2.1 s)) (d.2.1 q) (fun z => ?_) (fun z => ?_)⟩
    · have eq : q = d.2.2.1 s := (hS.2.2.2.2.1 _ _ (by omega) hq z).symm
      rw [if_pos eq, nI_pred]
      exact fin
    · have ne : q ≠ d.2.2.1 s := fun y => z (by rw [y])
      rw [if_neg ne, Nat.add_zero, Int32.sub_zero]
      exact fin
theorem m288 (v : Nat) : (288 : Int32) + nI v = nI (24 * 12 + v) := by rw [show (288 : Int32) = nI 288 from rfl, nI_add]
/-- what the model's calls on the working tree leave alone -/
def OffT (S S' : ab_S) : Prop := (∀ a b, (a < 21 ∨ (25 < a ∧ a < 30) ∨ 40 < a ∨ b ≠ 0) → S' a b = S a b) ∧ (∀ a j, 22 ≤ a → a ≤ 25 → (j < 288 ∨ 312 ≤ j) → S' a 0 j = S a 0 j) ∧ ∀ f, f = 6 ∨ f = 10 ∨ f = 11 ∨ f = 12 → S' 21 0 f = S 21 0 f
theorem OffT.rf {S : ab_S} : OffT S S := ⟨fun _ _ _ => rfl, fun _ _ _ _ _ => rfl, fun _ _ => rfl⟩
theorem OffT.tr {S S1 S2 : ab_S} (h : OffT S S1) (h2 : OffT S1 S2) : OffT S S2 := ⟨fun a b z => (h2.1 a b z).trans (h.1 a b z), fun a j z1 z2 z3 => (h2.2.1 a j z1 z2 z3).trans (h.2.1 a j z1 z2 z3), fun f z => (h2.2.2 f z).trans (h.2.2 f z)⟩
theorem OffT.su {S : ab_S} {f : Nat} {v : Int32} (hf : f ≠ 6 ∧ f ≠ 10 ∧ f ≠ 11 ∧ f ≠ 12) : OffT S (ab_su S 21 0 f v) := ⟨fun a b z => su_o (by omega), fun a j z1 z2 _ => by rw [su_o (Or.inl (by omega))], fun g z => su_j (by omega)⟩
theorem OffT.row {S : ab_S} {a j : Nat} {v : Int32} (ha : 22 ≤ a ∧ a ≤ 25) (hj : 288 ≤ j ∧ j < 312) : OffT S (ab_su S a 0 j v) := ⟨fun x b z => su_o (by omega), fun x i z1 z2 z3 => by
  by_cases e : x = a
  · subst e; exact su_j (by omega)
  · rw [su_o (Or.inl e)], fun g z => by rw [su_o (Or.inl (by omega))]⟩
theorem OffW.t {S S' : ab_S} (h : OffW S S') : OffT S S' := ⟨fun a b z => h.1 a b (by omega), fun a j z1 z2 _ => by rw [h.1 a 0 (Or.inl (by omega))], fun f z => h.2 f (by omega) (by omega)⟩
theorem MTd.su {S : ab_S} {u f : Nat} {d : sD} {v : Int32} (h : MTd S u d) : MTd (ab_su S 21 0 f v) u d := by
  unfold MTd TM
  rw [su_o (Or.inl (by decide)), su_o (Or.inl (by decide)), su_o (Or.inl (by decide)), su_o (Or.inl (by decide))]
  exact h
theorem sp_m_hasIn {Q : ab_Po} {S : ab_S} {u made : Nat} {d : sD} {x : Int32} (hu : u < 14) (hk : Okd made d) (h : MTd S u d) (h0 : (∀ s, s < d.1 → x ≠ nI (d.2.1 s)) → Q (.inl (some 0)) S) (h1 : ∀ s, s < d.1 → x = nI (d.2.1 s) → Q (.inl (some 1)) S) : Sp_X6_has [.inr (21, 0), .inl (nI u), .inl x] S Q := by
  refine sp_m_has hu ?_
  by_cases q : ∃ s, s < d.1 ∧ x = nI (d.2.1 s)
  · obtain ⟨s, hs, rfl⟩ := q
    have o24 := hk.1.2.2.2.1 s hs
    rw [if_neg (nI_pos (by omega)), if_neg (show ¬ (24 : Int32) ≤ nI (d.2.1 s) from nI_ge (b := 24) o24 (by decide)), nI_clamp (by omega), (h.1 s hs).1, if_neg (by decide)]
    exact h1 s hs rfl
  · have hz := h0 (fun s hs e => q ⟨s, hs, e⟩)
    by_cases c0 : x < 0
    · rw [if_pos c0]; exact hz
    · by_cases c1 : (24 : Int32) ≤ x
      · rw [if_neg c0, if_pos c1]; exact hz
      · obtain ⟨j, hj, rfl⟩ := vp_in_of (lt24 c0 c1) (by decide)
        rw [if_neg c0, if_neg c1, nI_clamp (by omega), h.2.2.2 j hj (fun i hi e => q ⟨i, hi, by rw [e]⟩), if_pos rfl]
        exact hz
theorem sp_m_insert {Q : ab_Po} {S : ab_S} {made : Nat} {d : sD} {x1 x2 x3 : Int32} (hk : Okd made d) (h : MTd S 12 d) (hm : S 21 0 5 = nI made) (hm24 : made ≤ 24)
    (h0 : (∀ s, s < d.1 → x1 ≠ nI (d.2.1 s)) → Q (.inl (some 0)) (ab_su S 21 0 0 1)) (h1 : ∀ s, s < d.1 → x1 = nI (d.2.1 s) → (∀ k, k ≤ ck d.2.2.1 s d.1 → x2 ≠ nI k) → Q (.inl (some 0)) (ab_su S 21 0 0 2)) (h2 : ∀ s k, s < d.1 → x1 = nI (d.2.1 s) → k ≤ ck d.2.2.1 s d.1 → x2 = nI k → (∀ c, c ≤ 5 → x3 ≠ nI c) → Q (.inl (some 0)) (ab_su S 21 0 0 3))
    (h3 : ∀ s k c, s < d.1 → x1 = nI (d.2.1 s) → k ≤ ck d.2.2.1 s d.1 → x2 = nI k → c ≤ 5 → x3 = nI c → made = 24 → Q (.inl (some 0)) (ab_su S 21 0 0 4))
    (h4 : ∀ s k c S', s < d.1 → x1 = nI (d.2.1 s) → k ≤ ck d.2.2.1 s d.1 → x2 = nI k → c ≤ 5 → x3 = nI c → made < 24 → OffT S S' → S' 21 0 0 = 0 → S' 21 0 5 = nI (made + 1) → (∀ sl, Slt d.1 d.2.2.1 s k sl → MTd S' 12 (insD d made s sl x3)) → Q (.inl (some (nI made))) S') : Sp_X6_insert [.inr (21, 0), .inl x1, .inl x2, .inl x3] S Q := by
  refine ⟨Nat.le_of_ble_eq_true rfl, fun G hG => ?_⟩
  have hS := hk.1
  have hn := hS.2.1
  have bad : ∀ (S' : ab_S) (c : Int32) (A : Prop), S' = ab_su S 21 0 0 c → ¬ c ≤ 0 → Q (.inl (some 0)) (ab_su S 21 0 0 c) → (S' 21 0 0 ≤ 0 → A) ∧ (¬ S' 21 0 0 ≤ 0 → Q (.inl (some 0)) S') := fun S' c A e hc hq => by
    subst e
    rw [su_at]
    exact ⟨fun z => absurd z hc, fun _ => hq⟩
  refine bl_X6_insert_0 hG x1 x2 x3 S (sp_m_hasIn (u := 12) (by decide) hk h (fun z => ?_) (fun s hs e1 => ?_))
  · refine bl_X6_insert_8 hG x1 x2 x3 _ S ⟨fun _ S2 e2 => bad S2 1 _ e2 (by decide) (h0 z), fun y => absurd rfl y⟩
  · have hck : ck d.2.2.1 s d.1 ≤ d.1 := ck_le _
    refine bl_X6_insert_8 hG x1 x2 x3 _ S ⟨fun y => absurd y (by decide), fun _ => ⟨fun y S1 e2 => bad S1 2 _ e2 (by decide) (h1 s hs e1 (fun k hk2 e => by rw [e] at y; exact nI_pos (by omega) y)), fun y => ?_⟩⟩
    obtain ⟨k, hk31, rfl⟩ := nI_of y
    rw [e1]
    refine sp_m_children (u := 12) hS h (by decide) hs ?_
    refine bl_X6_insert_27 hG _ _ x3 _ _ S (pk_le k (ck d.2.2.1 s d.1) (fun hk2 => ⟨fun w S1 e2 => bad S1 3 _ e2 (by decide) (h2 s k hs e1 hk2 rfl (fun c hc e => by rw [e] at w; exact nI_pos (by omega) w)), fun w => ?_⟩) (fun hk2 S5 e5 => bad S5 2 _ e5 (by decide) (h1 s hs e1 (fun j hj e => by have := (nI_eq (by omega) (by omega)).mp e; omega))))
    obtain ⟨c, hc31, rfl⟩ := nI_of w
    refine pk_le c 5 (fun hc => ?_) (fun hc S4 e4 => bad S4 3 _ e4 (by decide) (h2 s k hs e1 hk2 rfl (fun j hj e => by have := (nI_eq (by omega) (by omega)).mp e; omega)))
    rw [hm]
    refine pk_eq made 24 (fun z S3 e3 => bad S3 4 _ e3 (by decide) (h3 s k c hs e1 hk2 rfl hc rfl z)) (fun z S2 e2 => ?_)
    have hmade : made < 24 := by omega
    subst e2
    rw [su_at, su_j (by decide), hm]
    refine ⟨fun _ => ?_, fun y => absurd (by decide) y⟩
    refine sp_m_hang (u := 12) (by decide) hmade (fun S3 a1 a2 a3 a4 a5 a6 a7 => ?_)
    refine bl_X6_insert_85 hG _ _ _ S3 ?_
    have m3 : S3 21 0 = (ab_su S 21 0 0 0) 21 0 := a1 21 0 (Or.inl (by decide))
    rw [m3, su_j (by decide), hm, m288, nI_clamp (by omega)]
    refine ⟨vp_in_nI (by omega) (by decide), fun S4 e4 S5 e5 => ?_⟩
    have m4 : S4 21 0 = (ab_su S 21 0 0 0) 21 0 := by rw [e4, su_o (Or.inl (by decide)), m3]
    rw [m4, su_j (by decide), hm, nI_1] at e5
    have m5 : S5 21 0 5 = nI (made + 1) := by rw [e5, su_at]
    rw [m5, nI_pred]
    have hnew : ∀ i, i < d.1 → d.2.1 i ≠ made := fun i hi e => by have := (hk.2 i hi).1; omega
    have o5 : ∀ a b, ((a ≠ 21 ∧ a ≠ 23) ∨ b ≠ 0) → S5 a b = S3 a b := fun a b y => by rw [e5, su_o (by omega), e4, su_o (by omega)]
    refine h4 s k c S5 hs e1 hk2 rfl hc rfl hmade ?_ ?_ m5 (fun sl hsl => ?_)
    · refine ⟨fun a b y => ?_, fun a j y1 y2 y3 => ?_, fun f y => ?_⟩
      · rw [o5 a b (by omega), a1 a b (by omega), su_o (by omega)]
      · rcases (by omega : a = 22 ∨ a = 23 ∨ a = 24 ∨ a = 25) with e | e | e | e
        · rw [e, o5 22 0 (by omega), (a2 j (by omega)).1, su_o (Or.inl (by decide))]
        · rw [e, e5, su_o (Or.inl (by decide)), e4, su_j (by omega), a1 23 0 (Or.inl (by decide)), su_o (Or.inl (by decide))]
        · rw [e, o5 24 0 (by omega), (a2 j (by omega)).2, su_o (Or.inl (by decide))]
        · rw [e, o5 25 0 (by omega), a6 j (by omega), su_o (Or.inl (by decide))]
      · rw [e5, su_j (by omega), m4, su_j (by omega)]
    · rw [e5, su_j (by decide), m4, su_at]
    · have hT := MTd.su (f := 0) (v := 0) h
      show TM S5 12 (d.1 + 1) (insO d.2.1 (fun _ => made) sl 1) (insP d.2.2.1 (fun _ => 0) sl 1 s) (upd d.2.2.2 made (nI c))
      refine TM_ins hS hT hs hk2 hsl hmade hnew (by have := hsl.slv hS.2.2.2.2.2; rcases Nat.lt_or_ge d.1 24 with y | y; exact y; exact absurd (fb_onto (n := 24) (f := d.2.1) (fun i hi => hS.2.2.2.1 i (by omega)) (fun i j w1 w2 e => by have := hS.2.2.2.2.1 i j (by omega) (by omega) e; omega) hmade) (fun ⟨i, y1, y2⟩ => hnew i (by omega) y2)) (fun w hw hne => ⟨?_, ?_⟩) ?_ ?_ ?_ (fun w hw hne => ?_) (fun w hw hne e => ?_) (fun i hi => ?_) ?_
      · rw [o5 22 0 (by omega)]; exact (a2 _ (by omega)).1
      · rw [o5 24 0 (by omega)]; exact (a2 _ (by omega)).2
      · rw [o5 22 0 (by omega)]; exact a3
      · rw [o5 24 0 (by omega)]; exact a4
      · rw [o5 25 0 (by omega)]; exact a5
      · rw [o5 25 0 (by omega)]; exact a7 w hw hne
      · rw [pk_un hne]; exact e.symm
      · rw [e5, su_o (Or.inl (by decide)), e4, su_j (by have := hnew i hi; omega), a1 23 0 (Or.inl (by decide)), su_o (Or.inl (by decide))]; exact (h.1 i hi).2
      · rw [e5, su_o (Or.inl (by decide)), e4, su_at, pk_us]
