/-! The class's calls on the working tree. -/
abbrev sD : Type := Nat × (Nat → Nat) × (Nat → Nat) × (Nat → Int32)
def CTd (S : ab_S) (t : Nat) (d : sD) : Prop := Tr S t d.1 d.2.1 d.2.2.1 d.2.2.2 ∧ Ab S t d.1 d.2.1
def MTd (S : ab_S) (u : Nat) (d : sD) : Prop := TM S u d.1 d.2.1 d.2.2.1 d.2.2.2
def Okd (made : Nat) (d : sD) : Prop := Sh d.1 d.2.1 d.2.2.1 ∧ ∀ i, i < d.1 → d.2.1 i < made ∧ ∃ c, c ≤ 5 ∧ d.2.2.2 (d.2.1 i) = nI c
theorem CTd.off {S S' : ab_S} {t t' : Nat} {d : sD} (h : CTd S t d) (ho : Off S S' t') (ht : t ≠ t') : CTd S' t d := by
  unfold CTd Tr Ab
  rw [ho 4 t (by omega), ho 5 t (by omega), ho 6 t (by omega), ho 7 t (by omega), ho 8 t (by omega)]
  exact h
theorem lb_ne {x : Int32} {c : Nat} (hc : c ≤ 5) (h : x = nI c) : x ≠ -2 := by rw [h]; exact nu_ne (by omega) (by decide)
/-- a number is that of a node of the tree, or the tree doesn't hold it -/
theorem hl_in {S : ab_S} {t made : Nat} {d : sD} (hk : Okd made d) (h : CTd S t d) (x : Int32) : (∃ s, s < d.1 ∧ x = nI (d.2.1 s) ∧ hl S t x = 1) ∨ ((∀ s, s < d.1 → x ≠ nI (d.2.1 s)) ∧ hl S t x = 0) := by
  by_cases q : ∃ s, s < d.1 ∧ x = nI (d.2.1 s)
  · obtain ⟨s, hs, rfl⟩ := q
    left
    refine ⟨s, hs, rfl, ?_⟩
    obtain ⟨c, hc, hl⟩ := (hk.2 s hs).2
    rw [hl_n (hk.1.2.2.2.1 s hs), (h.1.2.1 s hs).2.2, if_neg (lb_ne hc hl)]
  · right
    refine ⟨fun s hs e => q ⟨s, hs, e⟩, ?_⟩
    by_cases h0 : x < 0
    · unfold hl; rw [if_pos h0]
    · by_cases h1 : (24 : Int32) ≤ x
      · unfold hl; rw [if_neg h0, if_pos h1]
      · obtain ⟨j, hj, rfl⟩ := vp_in_of (lt24 h0 h1) (by decide)
        rw [hl_n hj, (h.2 j hj (fun i hi e => q ⟨i, hi, by rw [e]⟩)).2, if_pos rfl]
theorem sp_c_reqNode {Q : ab_Po} {S : ab_S} {made : Nat} {d : sD} {x : Int32} (hk : Okd made d) (h : CTd S 0 d) (h0 : (∀ s, s < d.1 → x ≠ nI (d.2.1 s)) → Q (.inr 0) S) (h1 : ∀ s, s < d.1 → x = nI (d.2.1 s) → Q (.inl none) S) : Sp_X5_requireNode [.inr (0, 0), .inl x] S Q := by
  refine ⟨Nat.le_of_ble_eq_true rfl, fun G hG => ?_⟩
  refine bl_X5_requireNode_0 hG x S (sp_holds ?_)
  refine bl_X5_requireNode_8 hG x _ S ?_
  rcases hl_in hk h x with ⟨s, hs, e, z⟩ | ⟨e, z⟩
  · rw [z]; exact ⟨fun y => absurd y (by decide), fun _ => h1 s hs e⟩
  · rw [z]; exact ⟨fun _ => h0 e, fun y => absurd rfl y⟩
theorem sp_c_reqPlace {Q : ab_Po} {S : ab_S} {x : Int32} {m : Nat} (hm : m < 2 ^ 31) (h0 : (∀ k, k ≤ m → x ≠ nI k) → Q (.inr 1) S) (h1 : ∀ k, k ≤ m → x = nI k → Q (.inl none) S) : Sp_X5_requirePlace [.inl x, .inl (nI m)] S Q := by
  refine ⟨Nat.le_of_ble_eq_true rfl, fun G hG => ?_⟩
  refine bl_X5_requirePlace_0 hG x (nI m) S ⟨fun h => h0 (fun k hk e => by rw [e] at h; exact nI_pos (by omega) h), fun h => ?_⟩
  obtain ⟨j, hj, rfl⟩ := nI_of h
  refine pk_le j m (fun q => h1 j q rfl) (fun q => h0 (fun k hk e => by have := (nI_eq (by omega) (by omega)).mp e; omega))
theorem sp_c_reqPlaceM {Q : ab_Po} {S : ab_S} {x : Int32} (h0 : Q (.inr 1) S) : Sp_X5_requirePlace [.inl x, .inl (-1)] S Q := by
  refine ⟨Nat.le_of_ble_eq_true rfl, fun G hG => ?_⟩
  refine bl_X5_requirePlace_0 hG x (-1) S ⟨fun _ => h0, fun h => ⟨fun q => ?_, fun _ => h0⟩⟩
  exfalso
  obtain ⟨j, hj, rfl⟩ := nI_of h
  rw [Int32.le_iff_toInt_le, nI_toInt hj, show (-1 : Int32).toInt = -1 by decide] at q
  omega
theorem sp_c_reqLabel {Q : ab_Po} {S : ab_S} {x : Int32} (h0 : (∀ k, k ≤ 5 → x ≠ nI k) → Q (.inr 2) S) (h1 : ∀ k, k ≤ 5 → x = nI k → Q (.inl none) S) : Sp_X5_requireLabel [.inl x] S Q := by
  refine ⟨Nat.le_of_ble_eq_true rfl, fun G hG => ?_⟩
  refine bl_X5_requireLabel_0 hG x S ⟨fun h => h0 (fun k hk e => by rw [e] at h; exact nI_pos (by omega) h), fun h => ?_⟩
  obtain ⟨j, hj, rfl⟩ := nI_of h
  exact pk_lt j 6 (fun q => h1 j (by omega) rfl) (fun q => h0 (fun k hk e => by have := (nI_eq (by omega) (by omega)).mp e; omega))
/-- the shape with a node put in -/
def insD (d : sD) (v s sl : Nat) (x : Int32) : sD := (d.1 + 1, insO d.2.1 (fun _ => v) sl 1, insP d.2.2.1 (fun _ => 0) sl 1 s, upd d.2.2.2 v x)
def delD (d : sD) (s len : Nat) : sD := (d.1 - len, delO d.2.1 s len, delP d.2.2.1 s len, d.2.2.2)
def mvD (d : sD) (s len sl q : Nat) : sD := (d.1, mvO d.2.1 s len sl, mvP d.2.2.1 s len sl q, d.2.2.2)
theorem sp_c_insert {Q : ab_Po} {S : ab_S} {made : Nat} {d : sD} {x1 x2 x3 : Int32} (hk : Okd made d) (h : CTd S 0 d) (hm : S 0 0 4 = nI made) (hm24 : made ≤ 24)
    (h0 : (∀ s, s < d.1 → x1 ≠ nI (d.2.1 s)) → Q (.inr 0) S) (h1 : ∀ s, s < d.1 → x1 = nI (d.2.1 s) → (∀ k, k ≤ ck d.2.2.1 s d.1 → x2 ≠ nI k) → Q (.inr 1) S) (h2 : ∀ s k, s < d.1 → x1 = nI (d.2.1 s) → k ≤ ck d.2.2.1 s d.1 → x2 = nI k → (∀ c, c ≤ 5 → x3 ≠ nI c) → Q (.inr 2) S)
    (h3 : ∀ s k c, s < d.1 → x1 = nI (d.2.1 s) → k ≤ ck d.2.2.1 s d.1 → x2 = nI k → c ≤ 5 → x3 = nI c → made = 24 → Q (.inr 3) S)
    (h4 : ∀ s k c sl S', s < d.1 → x1 = nI (d.2.1 s) → k ≤ ck d.2.2.1 s d.1 → x2 = nI k → c ≤ 5 → x3 = nI c → made < 24 → Slt d.1 d.2.2.1 s k sl → (∀ a b, ((a ≠ 0 ∧ (a < 4 ∨ 9 < a)) ∨ b ≠ 0) → S' a b = S a b) → S' 0 0 = upd (S 0 0) 4 (nI (made + 1)) → Okd (made + 1) (insD d made s sl x3) → CTd S' 0 (insD d made s sl x3) → Q (.inl (some (nI made))) S') : Sp_X5_insert [.inr (0, 0), .inl x1, .inl x2, .inl x3] S Q := by
  refine ⟨Nat.le_of_ble_eq_true rfl, fun G hG => ?_⟩
  have hS := hk.1
  have hn := hS.2.1
  have hck : ∀ s, ck d.2.2.1 s d.1 ≤ d.1 := fun s => ck_le _
  refine bl_X5_insert_0 hG x1 x2 x3 S (sp_c_reqNode hk h h0 (fun s hs e1 => ?_))
  refine bl_X5_insert_5 hG x1 x2 x3 S ?_
  subst e1
  refine sp_childCount (h.1.rw hS) (h.1.pa hS) hs ?_
  refine bl_X5_insert_14 hG _ x2 x3 _ _ S (sp_c_reqPlace (by have := hck s; omega) (h1 s hs rfl) (fun k hk2 e2 => ?_))
  refine bl_X5_insert_17 hG _ x2 x3 S (sp_c_reqLabel (h2 s k hs rfl hk2 e2) (fun c hc e3 => ?_))
  refine bl_X5_insert_21 hG _ x2 x3 S ?_
  rw [hm]
  refine pk_lt made 24 (fun q => fun S1 e1 => ?_) (fun q => h3 s k c hs rfl hk2 e2 hc e3 (by omega))
  rw [nI_1] at e1
  have o1 : ∀ a b, (a ≠ 0 ∨ b ≠ 0) → S1 a b = S a b := fun a b z => by rw [e1]; exact su_o z
  have hC1 : CTd S1 0 d := by
    unfold CTd Tr Ab
    rw [o1 4 0 (by omega), o1 5 0 (by omega), o1 6 0 (by omega), o1 7 0 (by omega), o1 8 0 (by omega)]
    exact h
  have hnew : ∀ i, i < d.1 → d.2.1 i ≠ made := fun i hi e => by have := (hk.2 i hi).1; omega
  rw [e2]
  refine sp_attach hS hC1.1 hC1.2 hs hk2 q hnew (fun S2 sl hsl w1 w2 w3 w4 => ?_)
  refine bl_X5_insert_68 hG _ _ _ _ S2 ?_
  refine h4 s k c sl S2 hs rfl hk2 e2 hc e3 q hsl (fun a b z => ?_) ?_ ⟨w2, fun i hi => ?_⟩ ⟨w3, w4⟩
  · rw [w1 a b (by omega)]; exact o1 a b (by omega)
  · rw [w1 0 0 (by omega), e1]; unfold ab_su; exact sr_at _ _ _ _
  · have hslv := hsl.slv hS.2.2.2.2.2
    show insO d.2.1 (fun _ => made) sl 1 i < made + 1 ∧ ∃ c, c ≤ 5 ∧ upd d.2.2.2 made x3 (insO d.2.1 (fun _ => made) sl 1 i) = nI c
    by_cases z : sl ≤ i ∧ i < sl + 1
    · rw [insO_in z.1 z.2, pk_us]
      exact ⟨by omega, c, hc, e3⟩
    · obtain ⟨j, hj, rfl, -⟩ := up_or hslv.2.1 hi z
      rw [insO_up, pk_un (hnew j hj)]
      have := hk.2 j hj
      exact ⟨by omega, this.2⟩
theorem sp_c_delete {Q : ab_Po} {S : ab_S} {made : Nat} {d : sD} {x1 : Int32} (hk : Okd made d) (h : CTd S 0 d)
    (h0 : (∀ s, s < d.1 → x1 ≠ nI (d.2.1 s)) → Q (.inr 0) S) (h1 : x1 = nI 0 → Q (.inr 2) S)
    (h2 : ∀ s e S', 0 < s → s < d.1 → x1 = nI (d.2.1 s) → En d.1 d.2.2.1 s e → Off S S' 0 → Okd made (delD d s (e - s)) → CTd S' 0 (delD d s (e - s)) → Q (.inl (some (nI (e - s)))) S') : Sp_X5_delete [.inr (0, 0), .inl x1] S Q := by
  refine ⟨Nat.le_of_ble_eq_true rfl, fun G hG => ?_⟩
  have hS := hk.1
  have hn := hS.2.1
  refine bl_X5_delete_0 hG x1 S (sp_c_reqNode hk h h0 (fun s hs e1 => ?_))
  have o24 := hS.2.2.2.1 s hs
  refine bl_X5_delete_5 hG x1 S ⟨fun z => h1 z, fun z => ?_⟩
  have s0 : 0 < s := by
    rcases Nat.eq_zero_or_pos s with y | y
    · exfalso; subst y; rw [hS.2.2.1] at e1; exact z e1
    · exact y
  rw [e1]
  refine sp_prune hS h.1 h.2 hs s0 (fun S' e he w1 w2 w3 w4 => ?_)
  refine bl_X5_delete_27 hG _ _ S' (h2 s e S' s0 hs e1 he w1 ⟨w2, fun i hi => ?_⟩ ⟨w3, w4⟩)
  show delO d.2.1 s (e - s) i < made ∧ ∃ c, c ≤ 5 ∧ d.2.2.2 (delO d.2.1 s (e - s) i) = nI c
  have hi' : i < d.1 - (e - s) := hi
  have a1 := he.1
  have a2 := he.2.1
  unfold delO
  split
  · exact hk.2 i (by omega)
  · exact hk.2 _ (by omega)
theorem sp_c_relabel {Q : ab_Po} {S : ab_S} {made : Nat} {d : sD} {x1 x2 : Int32} (hk : Okd made d) (h : CTd S 0 d)
    (h0 : (∀ s, s < d.1 → x1 ≠ nI (d.2.1 s)) → Q (.inr 0) S) (h1 : ∀ s, s < d.1 → x1 = nI (d.2.1 s) → (∀ c, c ≤ 5 → x2 ≠ nI c) → Q (.inr 2) S)
    (h2 : ∀ s c S', s < d.1 → x1 = nI (d.2.1 s) → c ≤ 5 → x2 = nI c → Off S S' 0 → Okd made (d.1, d.2.1, d.2.2.1, upd d.2.2.2 (d.2.1 s) x2) → CTd S' 0 (d.1, d.2.1, d.2.2.1, upd d.2.2.2 (d.2.1 s) x2) → Q (.inl none) S') : Sp_X5_relabel [.inr (0, 0), .inl x1, .inl x2] S Q := by
  refine ⟨Nat.le_of_ble_eq_true rfl, fun G hG => ?_⟩
  have hS := hk.1
  refine bl_X5_relabel_0 hG x1 x2 S (sp_c_reqNode hk h h0 (fun s hs e1 => ?_))
  have o24 := hS.2.2.2.1 s hs
  refine bl_X5_relabel_5 hG x1 x2 S (sp_c_reqLabel (h1 s hs e1) (fun c hc e2 => ?_))
  refine bl_X5_relabel_9 hG x1 x2 S ?_
  rw [e1, nI_clamp (by omega)]
  refine ⟨vp_in_nI o24 (by decide), fun S' e' => ?_⟩
  have o1 : ∀ a b, (a ≠ 8 ∨ b ≠ 0) → S' a b = S a b := fun a b z => by rw [e']; exact su_o z
  refine h2 s c S' hs e1 hc e2 (fun a b z => o1 a b (by omega)) ⟨hS, fun i hi => ⟨(hk.2 i hi).1, ?_⟩⟩ ⟨⟨?_, fun i hi => ⟨?_, ?_, ?_⟩, ?_, fun i i0 hi => ?_⟩, fun v hv hno => ?_⟩
  · show ∃ c, c ≤ 5 ∧ upd d.2.2.2 (d.2.1 s) x2 (d.2.1 i) = nI c
    by_cases z : d.2.1 i = d.2.1 s
    · rw [z, pk_us]; exact ⟨c, hc, e2⟩
    · rw [pk_un z]; exact (hk.2 i hi).2
  · rw [o1 4 0 (by omega)]; exact h.1.1
  · rw [o1 5 0 (by omega)]; exact (h.1.2.1 i hi).1
  · rw [o1 6 0 (by omega)]; exact (h.1.2.1 i hi).2.1
  · show S' 8 0 (d.2.1 i) = upd d.2.2.2 (d.2.1 s) x2 (d.2.1 i)
    by_cases z : d.2.1 i = d.2.1 s
    · rw [z, pk_us, e', su_at]
    · rw [pk_un z, e', su_j z]; exact (h.1.2.1 i hi).2.2
  · rw [o1 7 0 (by omega)]; exact h.1.2.2.1
  · rw [o1 7 0 (by omega)]; exact h.1.2.2.2 i i0 hi
  · rw [o1 7 0 (by omega), e', su_j (fun z => hno s hs z.symm)]; exact h.2 v hv hno
