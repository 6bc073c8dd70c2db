/-! Moving a part; copies; comparing. -/
theorem Lp_part {n : Nat} {pp : Nat → Nat} {s e : Nat} (hL : Lp n pp) (h : En n pp s e) : Lp (e - s) (fun i => pp (s + i) - s) := by
  have h1 := h.1
  have h2 := h.2.1
  refine ⟨fun i i0 hi => ?_, fun i j i0 hij hj hp => ?_⟩
  · have := En_in hL h (i := s + i) (by omega) (by omega)
    show pp (s + i) - s < i
    omega
  · have a := En_in hL h (i := s + i) (by omega) (by omega)
    have b := En_in hL h (i := s + j) (by omega) (by omega)
    have hp' : pp (s + j) - s < i := hp
    have := hL.2 (s + i) (s + j) (by omega) (by omega) (by omega) (by omega)
    show pp (s + j) - s ≤ pp (s + i) - s
    omega
/-- the row and the parents with the part at s moved: taken out, then put in at a slot as a child of q -/
def mvO (o : Nat → Nat) (s len sl : Nat) : Nat → Nat := insO (delO o s len) (fun i => o (s + i)) sl len
def mvP (pp : Nat → Nat) (s len sl q : Nat) : Nat → Nat := insP (delP pp s len) (fun i => pp (s + i) - s) sl len q
theorem Sh_mv {n : Nat} {o pp : Nat → Nat} {s e sl q : Nat} (hS : Sh n o pp) (hs0 : 0 < s) (he : En n pp s e) (hv : Slv (n - (e - s)) (delP pp s (e - s)) q sl) : Sh n (mvO o s (e - s) sl) (mvP pp s (e - s) sl q) := by
  have h1 := he.1
  have h2 := he.2.1
  have h := Sh_ins (c := fun i => o (s + i)) (cp := fun i => pp (s + i) - s) (Sh_del hS hs0 he) (Lp_part hS.2.2.2.2.2 he) (by omega) (by have := hS.2.1; omega) hv (fun i hi => hS.2.2.2.1 _ (by omega)) (fun i j hi hj z => by have := hS.2.2.2.2.1 _ _ (by omega) (by omega) z; omega) (fun i j hi hj z => by
    unfold delO at z
    split at z <;> (have := hS.2.2.2.2.1 _ _ (by omega) (by omega) z; omega))
  rw [show n - (e - s) + (e - s) = n by omega] at h
  exact h
theorem sp_transplant {Q : ab_Po} {S : ab_S} {t n s q k e : Nat} {o pp : Nat → Nat} {lb : Nat → Int32} (hS : Sh n o pp) (hT : Tr S t n o pp lb) (hA : Ab S t n o) (hs0 : 0 < s) (hs : s < n) (he : En n pp s e) (hq : q < n) (hqo : q < s ∨ e ≤ q) (hk : k ≤ ck (delP pp s (e - s)) (dnP s (e - s) q) (n - (e - s)))
    (hQ : ∀ S' sl, Slt (n - (e - s)) (delP pp s (e - s)) (dnP s (e - s) q) k sl → Off S S' t → Sh n (mvO o s (e - s) sl) (mvP pp s (e - s) sl (dnP s (e - s) q)) → Tr S' t n (mvO o s (e - s) sl) (mvP pp s (e - s) sl (dnP s (e - s) q)) lb → Ab S' t n (mvO o s (e - s) sl) → Q (.inl none) S') : Sp_X4_transplant [.inr (4, t), .inl (nI (o s)), .inl (nI (o q)), .inl (nI k)] S Q := by
  refine ⟨Nat.le_of_ble_eq_true rfl, fun G hG => ?_⟩
  have hn := hS.2.1
  have hL := hS.2.2.2.2.2
  have inj := hS.2.2.2.2.1
  have he1 := he.1
  have he2 := he.2.1
  refine bl_X4_transplant_0 hG t _ _ _ S ?_
  refine sp_takeOut (hT.rw hS) (hT.pa hS) hs (fun S1 e' he' g1 g2 g3 => ?_)
  have ee := En_one he' he
  subst ee
  have hS1 := Sh_del hS hs0 he
  have p1 : S1 7 t = S 7 t := g1 7 t (Or.inl ⟨by decide, by decide, by decide, by decide⟩)
  have l1 : S1 8 t = S 8 t := g1 8 t (Or.inl ⟨by decide, by decide, by decide, by decide⟩)
  have hT1 : Tr S1 t (n - (e' - s)) (delO o s (e' - s)) (delP pp s (e' - s)) lb := Tr_del hS hs0 he g3 (by rw [p1]; exact hT.2.2.1) (fun i i0 hi _ => by rw [p1]; exact hT.2.2.2 i i0 hi) (fun i hi _ => by rw [l1]; exact (hT.2.1 i hi).2.2)
  refine bl_X4_transplant_5 hG t _ _ _ (nI (e' - s)) S1 ?_
  have hdq : delO o s (e' - s) (dnP s (e' - s) q) = o q := delO_dn (by omega)
  have hq' : dnP s (e' - s) q < n - (e' - s) := by unfold dnP; split <;> omega
  rw [← hdq]
  have hckk := ck_le (pp := delP pp s (e' - s)) (s := dnP s (e' - s) q) (n - (e' - s))
  refine sp_slotFor (hT1.rw hS1) (hT1.pa hS1) hq' (by omega) (fun sl hsl => ?_)
  have hslv := hsl.slv hS1.2.2.2.2.2
  have o24 := hS.2.2.2.1 s hs
  refine bl_X4_transplant_13 hG t _ _ _ (nI (e' - s)) (nI sl) S1 ⟨pk_in (o s) 24 o24, ?_⟩
  rw [nI_clamp (show o s < 2 ^ 31 by omega), hdq]
  intro S2 e2
  have f2 : ∀ a b, (a ≠ 7 ∨ b ≠ t) → S2 a b = S1 a b := fun a b z => by rw [e2]; exact su_o z
  have p2 : ∀ u, u ≠ o s → S2 7 t u = S 7 t u := fun u z => by rw [e2, su_j z, p1]
  have ps : S2 7 t (o s) = nI (o q) := by rw [e2, su_at]
  have hR2 : Rw S2 t (n - (e' - s)) (delO o s (e' - s)) := ⟨by rw [f2 4 t (Or.inl (by decide))]; exact g3.1, g3.2.1, fun i hi => by rw [f2 5 t (Or.inl (by decide)), f2 6 t (Or.inl (by decide))]; exact g3.2.2 i hi⟩
  have hdo : ∀ i j, i < n - (e' - s) → j < e' - s → delO o s (e' - s) i ≠ o (s + j) := fun i j hi hj z => by
    unfold delO at z
    split at z <;> (have := inj _ _ (by omega) (by omega) z; omega)
  refine sp_putCarried (c := fun i => o (s + i)) hR2 hslv.2.1 (by omega) (fun i hi => ⟨hS.2.2.2.1 _ (by omega), by rw [f2 9 t (Or.inl (by decide))]; exact g2 i hi⟩) (insO_inj hslv.2.1 hS1.2.2.2.2.1 (fun i j hi hj z => by have := inj _ _ (by omega) (by omega) z; omega) hdo) (fun S' k1 k2 => ?_)
  refine bl_X4_transplant_30 hG t _ _ _ _ _ S' ?_
  have p3 : S' 7 t = S2 7 t := k1 7 t (Or.inl ⟨by decide, by decide, by decide⟩)
  have l3 : S' 8 t = S 8 t := by rw [k1 8 t (Or.inl ⟨by decide, by decide, by decide⟩), f2 8 t (Or.inl (by decide)), l1]
  have nn : n - (e' - s) + (e' - s) = n := by omega
  have hTr := Tr_ins (S := S') (t := t) (c := fun i => o (s + i)) (cp := fun i => pp (s + i) - s) (lb := lb) hS1 (Lp_part hL he) (by omega) hslv k2 (by rw [p3, p2 0 (fun z => by have := inj 0 s hS.1 hs (by rw [hS.2.2.1]; exact z); omega)]; exact hT.2.2.1)
    (fun i i0 hi => by
      rw [p3, p2 _ (fun z => hdo i 0 hi (by omega) (by rw [Nat.add_zero]; exact z)), ← p1]
      exact hT1.2.2.2 i i0 hi) (by rw [p3, Nat.add_zero, ps, hdq]) (fun i i0 hi => by
      have hin := En_in hL he (i := s + i) (by omega) (by omega)
      rw [p3, p2 _ (fun z => by have := inj _ _ (by omega) hs z; omega), show s + (pp (s + i) - s) = pp (s + i) by omega]
      exact hT.2.2.2 _ (by omega) (by omega)) (fun i hi => by rw [l3, ← l1]; exact (hT1.2.1 i hi).2.2) (fun i hi => by rw [l3]; exact (hT.2.1 _ (by omega)).2.2)
  rw [nn] at hTr
  refine hQ S' sl hsl (fun a b z => ?_) (Sh_mv hS hs0 he hslv) hTr (fun u hu hno => ?_)
  · rw [k1 a b (by omega), f2 a b (by omega)]; exact g1 a b (by omega)
  · have hno2 : ∀ i, i < n → o i ≠ u := by
      intro i hi z
      by_cases c1 : s ≤ i ∧ i < e'
      · exact hno (sl + (i - s)) (by have := hslv.2.1; omega) (by unfold mvO; rw [insO_in (by omega) (by omega), show s + (sl + (i - s) - sl) = i by omega]; exact z)
      · refine hno (upP sl (e' - s) (dnP s (e' - s) i)) ?_ (by unfold mvO; rw [insO_up, delO_dn (by omega)]; exact z)
        unfold upP dnP
        split <;> split <;> omega
    have us : u ≠ o s := fun z => hno2 s hs z.symm
    rw [p3, l3, p2 u us]
    exact hA u hu hno2
/-- whether a tree has a node, as an int -/
def hl (S : ab_S) (t : Nat) (x : Int32) : Int32 := if x < 0 then 0 else if 24 ≤ x then 0 else if S 8 t x.toNatClampNeg = -2 then 0 else 1
theorem lt24 {x : Int32} (h0 : ¬ x < 0) (h : ¬ (24 : Int32) ≤ x) : vp_in x 24 := by
  obtain ⟨j, hj, rfl⟩ := nI_of h0
  refine vp_in_nI ?_ (by omega)
  have : ¬ nI 24 ≤ nI j := h
  rw [nI_leI (by omega) hj] at this
  omega
theorem sp_holds {Q : ab_Po} {S : ab_S} {t : Nat} {x : Int32} (hQ : Q (.inl (some (hl S t x))) S) : Sp_X4_holds [.inr (4, t), .inl x] S Q := by
  refine ⟨Nat.le_of_ble_eq_true rfl, fun G hG => ?_⟩
  refine bl_X4_holds_0 hG t x S ?_
  unfold hl at hQ
  refine ⟨fun h => by rw [if_pos h] at hQ; exact hQ, fun h => ⟨fun h2 => by rw [if_neg h, if_pos h2] at hQ; exact hQ, fun h2 => ⟨lt24 h h2, fun h3 => by rw [if_neg h, if_neg h2, if_pos h3] at hQ; exact hQ, fun h3 => by rw [if_neg h, if_neg h2, if_neg h3] at hQ; exact hQ⟩⟩⟩
theorem hl_n {S : ab_S} {t v : Nat} (h : v < 24) : hl S t (nI v) = if S 8 t v = -2 then 0 else 1 := by
  unfold hl
  rw [if_neg (nI_pos (by omega)), if_neg (show ¬ (24 : Int32) ≤ nI v from nI_ge (b := 24) h (by decide)), nI_clamp (by omega)]
theorem sp_hasAsIn {Q : ab_Po} {S : ab_S} {t t1 v : Nat} (hv : v < 24) (hQ : Q (.inl (some (if S 8 t v = S 8 t1 v ∧ S 7 t v = S 7 t1 v then 1 else 0))) S) : Sp_X4_hasAsIn [.inr (4, t), .inr (4, t1), .inl (nI v)] S Q := by
  refine ⟨Nat.le_of_ble_eq_true rfl, fun G hG => ?_⟩
  refine bl_X4_hasAsIn_0 hG t t1 (nI v) S ?_
  rw [nI_clamp (show v < 2 ^ 31 by omega)]
  refine ⟨pk_in v 24 hv, pk_in v 24 hv, fun h => ⟨pk_in v 24 hv, pk_in v 24 hv, fun h2 => by rw [if_pos ⟨h, h2⟩] at hQ; exact hQ, fun h2 => by rw [if_neg (fun z => h2 z.2)] at hQ; exact hQ⟩, fun h => by rw [if_neg (fun z => h z.1)] at hQ; exact hQ⟩
theorem sp_isWithin {Q : ab_Po} {S : ab_S} {t n i s e : Nat} {o pp : Nat → Nat} (hR : Rw S t n o) (hP : Pa S t n o pp) (hi : i < n) (hs : s < n) (he : En n pp s e) (hQ : Q (.inl (some (if s ≤ i ∧ i < e then 1 else 0))) S) : Sp_X4_isWithin [.inr (4, t), .inl (nI (o i)), .inl (nI (o s))] S Q := by
  refine ⟨Nat.le_of_ble_eq_true rfl, fun G hG => ?_⟩
  have hn := hR.2.1
  obtain ⟨a1, a2, a3⟩ := hR.2.2 i hi
  obtain ⟨b1, b2, b3⟩ := hR.2.2 s hs
  refine bl_X4_isWithin_0 hG t _ _ S ?_
  rw [nI_clamp (show o i < 2 ^ 31 by omega), nI_clamp (show o s < 2 ^ 31 by omega), a3, b3]
  refine ⟨pk_in _ 24 a1, pk_in _ 24 b1, pk_lt i s (fun h => ?_) (fun h => ⟨pk_in _ 24 a1, pk_in _ 24 b1, ?_⟩)⟩
  · rw [if_neg (by omega)] at hQ; exact hQ
  · refine sp_endOf hR hP hs (fun e' he' => ?_)
    have ee := En_one he' he
    subst ee
    have := he.2.1
    refine bl_X4_isWithin_31 hG t _ _ (nI e') (nI i) S ?_
    refine pk_le e' i (fun q => ?_) (fun q => ?_)
    · rw [if_neg (by omega)] at hQ; exact hQ
    · rw [if_pos (by omega)] at hQ; exact hQ
theorem cl24 : (24 : Int32).toNatClampNeg = 24 := by decide
theorem sp_copyFrom {Q : ab_Po} {S : ab_S} {t t1 : Nat} (hne : t1 ≠ t)
    (hQ : ∀ S', Off S S' t → S' 4 t 4 = S 4 t1 4 → (∀ j, j < 24 → S' 5 t j = S 5 t1 j ∧ S' 6 t j = S 6 t1 j ∧ S' 7 t j = S 7 t1 j ∧ S' 8 t j = S 8 t1 j) → Q (.inl none) S') : Sp_X4_copyFrom [.inr (4, t), .inr (4, t1)] S Q := by
  refine ⟨Nat.le_of_ble_eq_true rfl, fun G hG => ?_⟩
  refine bl_X4_copyFrom_0 hG t t1 S ?_
  rw [sb_cl0, cl24]
  refine ⟨by decide, by decide, by decide, by decide, by decide, fun S1 e1 => ⟨by decide, by decide, by decide, by decide, by decide, fun S2 e2 => ⟨by decide, by decide, by decide, by decide, by decide, fun S3 e3 => ⟨by decide, by decide, by decide, by decide, by decide, fun S4 e4 S5 e5 => ?_⟩⟩⟩⟩
  have o1 : ∀ a b, (a ≠ 5 ∨ b ≠ t) → S1 a b = S a b := fun a b z => by rw [e1]; exact sr_o z
  have o2 : ∀ a b, (a ≠ 6 ∨ b ≠ t) → S2 a b = S1 a b := fun a b z => by rw [e2]; exact sr_o z
  have o3 : ∀ a b, (a ≠ 7 ∨ b ≠ t) → S3 a b = S2 a b := fun a b z => by rw [e3]; exact sr_o z
  have o4 : ∀ a b, (a ≠ 8 ∨ b ≠ t) → S4 a b = S3 a b := fun a b z => by rw [e4]; exact sr_o z
  have o5 : ∀ a b, (a ≠ 4 ∨ b ≠ t) → S5 a b = S4 a b := fun a b z => by rw [e5]; exact su_o z
  have cp : ∀ (f g : Nat → Int32) (j : Nat), j < 24 → va_cpy f g 0 0 24 j = f j := fun f g j hj => by
    unfold va_cpy
    rw [if_pos (by omega)]
    congr 1
    omega
  refine hQ S5 (fun a b z => ?_) ?_ (fun j hj => ⟨?_, ?_, ?_, ?_⟩)
  · rw [o5 a b (by omega), o4 a b (by omega), o3 a b (by omega), o2 a b (by omega), o1 a b (by omega)]
  · rw [e5, su_at, o4 4 t1 (Or.inl (by decide)), o3 4 t1 (Or.inl (by decide)), o2 4 t1 (Or.inl (by decide)), o1 4 t1 (Or.inl (by decide))]
  · rw [o5 5 t (Or.inl (by decide)), o4 5 t (Or.inl (by decide)), o3 5 t (Or.inl (by decide)), o2 5 t (Or.inl (by decide)), e1, sr_at, cp _ _ j hj]
  · rw [o5 6 t (Or.inl (by decide)), o4 6 t (Or.inl (by decide)), o3 6 t (Or.inl (by decide)), e2, sr_at, cp _ _ j hj, o1 6 t1 (Or.inl (by decide))]
  · rw [o5 7 t (Or.inl (by decide)), o4 7 t (Or.inl (by decide)), e3, sr_at, cp _ _ j hj, o2 7 t1 (Or.inl (by decide)), o1 7 t1 (Or.inl (by decide))]
  · rw [o5 8 t (Or.inl (by decide)), e4, sr_at, cp _ _ j hj, o3 8 t1 (Or.inl (by decide)), o2 8 t1 (Or.inl (by decide)), o1 8 t1 (Or.inl (by decide))]
theorem sp_fill7 {Q : ab_Po} {S : ab_S} {t : Nat} {x : Int32} (hQ : ∀ S', (∀ a b, (a ≠ 7 ∨ b ≠ t) → S' a b = S a b) → (∀ j, j < 24 → S' 7 t j = x) → Q (.inl none) S') : Sp_J7_fill_53178 [.inr (7, t), .inl x] S Q := by
  refine ⟨Nat.le_of_ble_eq_true rfl, fun G hG => ?_⟩
  refine bl_J7_fill_53178_k7_0 hG t x S ?_
  have key : ∀ i, i ≤ 24 → ∀ S1 : ab_S, (∀ a b, (a ≠ 7 ∨ b ≠ t) → S1 a b = S a b) → (∀ j, j < i → S1 7 t j = x) → G 5 [some (.inr (7, t)), some (.inl x), some (.inl (nI i)), some (.inl 24)] [] S1 0 := by
    refine ind_up _ ?_ ?_
    · intro S1 h1 h2
      exact bl_J7_fill_53178_k7_5 hG t x _ _ S1 (pk_le 24 24 (fun _ => hQ S1 h1 h2) (fun h => by omega))
    · intro i hi ih S1 h1 h2
      refine bl_J7_fill_53178_k7_5 hG t x _ _ S1 (pk_le 24 i (fun h => by omega) (fun _ => ⟨pk_in i 24 hi, fun S2 e2 => ?_⟩))
      rw [nI_clamp (show i < 2 ^ 31 by omega)] at e2
      rw [nI_1]
      refine ih S2 (fun a b z => by rw [e2, su_o z]; exact h1 a b z) (fun j hj => ?_)
      by_cases c : j = i
      · subst c; rw [e2, su_at]
      · rw [e2, su_j c]; exact h2 j (by omega)
  exact key 0 (by omega) S (fun _ _ _ => rfl) (fun j hj => by omega)
theorem sp_fill8 {Q : ab_Po} {S : ab_S} {t : Nat} {x : Int32} (hQ : ∀ S', (∀ a b, (a ≠ 8 ∨ b ≠ t) → S' a b = S a b) → (∀ j, j < 24 → S' 8 t j = x) → Q (.inl none) S') : Sp_J7_fill_53178 [.inr (8, t), .inl x] S Q := by
  refine ⟨Nat.le_of_ble_eq_true rfl, fun G hG => ?_⟩
  refine bl_J7_fill_53178_k8_0 hG t x S ?_
  have key : ∀ i, i ≤ 24 → ∀ S1 : ab_S, (∀ a b, (a ≠ 8 ∨ b ≠ t) → S1 a b = S a b) → (∀ j, j < i → S1 8 t j = x) → G 5 [some (.inr (8, t)), some (.inl x), some (.inl (nI i)), some (.inl 24)] [] S1 0 := by
    refine ind_up _ ?_ ?_
    · intro S1 h1 h2
      exact bl_J7_fill_53178_k8_5 hG t x _ _ S1 (pk_le 24 24 (fun _ => hQ S1 h1 h2) (fun h => by omega))
    · intro i hi ih S1 h1 h2
      refine bl_J7_fill_53178_k8_5 hG t x _ _ S1 (pk_le 24 i (fun h => by omega) (fun _ => ⟨pk_in i 24 hi, fun S2 e2 => ?_⟩))
      rw [nI_clamp (show i < 2 ^ 31 by omega)] at e2
      rw [nI_1]
      refine ih S2 (fun a b z => by rw [e2, su_o z]; exact h1 a b z) (fun j hj => ?_)
      by_cases c : j = i
      · subst c; rw [e2, su_at]
      · rw [e2, su_j c]; exact h2 j (by omega)
  exact key 0 (by omega) S (fun _ _ _ => rfl) (fun j hj => by omega)
theorem sp_clear {Q : ab_Po} {S : ab_S} {t : Nat} (hQ : ∀ S', Off S S' t → S' 4 t 4 = 0 → (∀ j, j < 24 → S' 7 t j = -2 ∧ S' 8 t j = -2) → Q (.inl none) S') : Sp_X4_clear [.inr (4, t)] S Q := by
  refine ⟨Nat.le_of_ble_eq_true rfl, fun G hG => ?_⟩
  refine bl_X4_clear_0 hG t S (sp_fill7 (fun S1 a1 a2 => ?_))
  refine bl_X4_clear_9 hG t S1 (sp_fill8 (fun S2 b1 b2 => ?_))
  refine bl_X4_clear_18 hG t S2 (fun S3 e3 => ?_)
  refine hQ S3 (fun a b z => ?_) (by rw [e3, su_at]) (fun j hj => ⟨?_, ?_⟩)
  · rw [e3, su_o (by omega), b1 a b (by omega), a1 a b (by omega)]
  · rw [e3, su_o (Or.inl (by decide)), b1 7 t (Or.inl (by decide)), a2 j hj]
  · rw [e3, su_o (Or.inl (by decide)), b2 j hj]
