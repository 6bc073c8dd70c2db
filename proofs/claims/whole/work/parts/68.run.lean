/-! The class's merger. -/
def TF (made : Nat) (l p : Nat → Int32) : Prop := (∀ v, v < 24 → l v = -2 → p v = -2) ∧ (∀ v, v < 24 → l v ≠ -2 → v < made ∧ (∃ c, c ≤ 5 ∧ l v = nI c) ∧ ((v = 0 ∧ p v = -1) ∨ (0 < v ∧ ∃ w, w < 24 ∧ p v = nI w))) ∧ l 0 ≠ -2
theorem TF.of {S : ab_S} {t made : Nat} {d : sD} (hk : Okd made d) (h : CTd S t d) : TF made (S 8 t) (S 7 t) := by
  have hS := hk.1
  have mem : ∀ v, v < 24 → S 8 t v ≠ -2 → ∃ i, i < d.1 ∧ d.2.1 i = v := fun v hv hl => by
    apply Classical.byContradiction
    intro hno
    exact hl (h.2 v hv (fun i hi e => hno ⟨i, hi, e⟩)).2
  refine ⟨fun v hv hl => ?_, fun v hv hl => ?_, ?_⟩
  · refine (h.2 v hv (fun i hi e => ?_)).1
    subst e
    obtain ⟨c, hc, e⟩ := (hk.2 i hi).2
    rw [(h.1.2.1 i hi).2.2, e] at hl
    exact nu_ne (by omega) (by decide) hl
  · obtain ⟨i, hi, rfl⟩ := mem v hv hl
    obtain ⟨a, c, hc, e⟩ := hk.2 i hi
    refine ⟨a, ⟨c, hc, by rw [(h.1.2.1 i hi).2.2]; exact e⟩, ?_⟩
    rcases Nat.eq_zero_or_pos i with q | q
    · subst q; rw [hS.2.2.1]; exact Or.inl ⟨rfl, h.1.2.2.1⟩
    · refine Or.inr ⟨?_, d.2.1 (d.2.2.1 i), hS.2.2.2.1 _ (by have := hS.2.2.2.2.2.1 i q hi; omega), h.1.2.2.2 i q hi⟩
      rcases Nat.eq_zero_or_pos (d.2.1 i) with w | w
      · have := hS.2.2.2.2.1 i 0 hi hS.1 (w.trans hS.2.2.1.symm); omega
      · exact w
  · have e := (h.1.2.1 0 hS.1).2.2
    rw [hS.2.2.1] at e
    obtain ⟨c, hc, e2⟩ := (hk.2 0 hS.1).2
    rw [hS.2.2.1] at e2
    rw [e, e2]
    exact nu_ne (by omega) (by decide)
theorem agr_or {a b c : Int32} (h : a ≠ -2 ∨ b ≠ -2) : agr a b c = -3 ∨ (agr a b c = a ∧ a ≠ -2) ∨ (agr a b c = b ∧ b ≠ -2) := by
  unfold agr
  by_cases h1 : a = b
  · rw [if_pos h1]; subst h1; exact Or.inr (Or.inl ⟨rfl, h.elim id id⟩)
  rw [if_neg h1]
  by_cases h2 : b = -2
  · rw [if_pos h2]; exact Or.inr (Or.inl ⟨rfl, h.elim id (fun z => absurd h2 z)⟩)
  rw [if_neg h2]
  by_cases h3 : a = -2
  · rw [if_pos h3]; exact Or.inr (Or.inr ⟨rfl, h2⟩)
  rw [if_neg h3]
  by_cases h4 : a = c
  · rw [if_pos h4]; exact Or.inr (Or.inr ⟨rfl, h2⟩)
  rw [if_neg h4]
  by_cases h5 : b = c
  · rw [if_pos h5]; exact Or.inr (Or.inl ⟨rfl, h3⟩)
  rw [if_neg h5]; exact Or.inl rfl
def kF (lo po lt pt lb pb : Nat → Int32) (v : Nat) : Nat := oK (lo v) (po v) (lt v) (pt v) (lb v) (pb v)
def lF (lo po lt pt lb pb : Nat → Int32) (v : Nat) : Int32 := oL (lo v) (po v) (lt v) (pt v) (lb v) (pb v)
def pF (lo po lt pt lb pb : Nat → Int32) (v : Nat) : Int32 := oP (lo v) (po v) (lt v) (pt v) (lb v) (pb v)
theorem TF.lp {made : Nat} {l p : Nat → Int32} (h : TF made l p) {v : Nat} (hv : v < 24) : l v ≠ -2 ↔ p v ≠ -2 := by
  refine ⟨fun z => ?_, fun z y => z (h.1 v hv y)⟩
  rcases (h.2.1 v hv z).2.2 with ⟨_, e⟩ | ⟨_, w, hw, e⟩
  · rw [e]; decide
  · rw [e]; exact nu_ne (by omega) (by decide)
/-- where the label and the parent of a staying node come from -/
theorem out_src {made : Nat} {lo po lt pt lb pb : Nat → Int32} (hO : TF made lo po) (hT : TF made lt pt) {v : Nat} (hv : v < 24) (h : lF lo po lt pt lb pb v ≠ -2) :
    ((lF lo po lt pt lb pb v = lo v ∧ lo v ≠ -2) ∨ (lF lo po lt pt lb pb v = lt v ∧ lt v ≠ -2)) ∧ ((pF lo po lt pt lb pb v = po v ∧ lo v ≠ -2) ∨ (pF lo po lt pt lb pb v = pt v ∧ lt v ≠ -2)) := by
  unfold lF oL at *
  unfold pF oP
  by_cases h1 : lo v = -2 ∧ lt v = -2
  · rw [if_pos h1] at h; exact absurd rfl h
  rw [if_neg h1] at h ⊢
  rw [if_neg h1]
  by_cases h2 : (lo v = -2 ∨ lt v = -2) ∧ lb v ≠ -2
  · rw [if_pos h2] at h; exact absurd rfl h
  rw [if_neg h2] at h ⊢
  rw [if_neg h2]
  by_cases h3 : agr (lo v) (lt v) (lb v) = -3
  · rw [if_pos h3] at h; exact absurd rfl h
  rw [if_neg h3] at h ⊢
  rw [if_neg h3]
  by_cases h4 : agr (po v) (pt v) (pb v) = -3
  · rw [if_pos h4] at h; exact absurd rfl h
  rw [if_neg h4, if_neg h4]
  have hx : lo v ≠ -2 ∨ lt v ≠ -2 := by
    by_cases q : lo v = -2
    · exact Or.inr (fun z => h1 ⟨q, z⟩)
    · exact Or.inl q
  have hy : po v ≠ -2 ∨ pt v ≠ -2 := hx.elim (fun z => Or.inl ((hO.lp hv).mp z)) (fun z => Or.inr ((hT.lp hv).mp z))
  refine ⟨(agr_or hx).resolve_left h3, ?_⟩
  rcases (agr_or (c := pb v) hy).resolve_left h4 with ⟨a, b⟩ | ⟨a, b⟩
  · exact Or.inl ⟨a, (hO.lp hv).mpr b⟩
  · exact Or.inr ⟨a, (hT.lp hv).mpr b⟩
theorem out_none {lo po lt pt lb pb : Nat → Int32} {v : Nat} (h : lF lo po lt pt lb pb v = -2) (hne : ∀ x y z : Int32, x ≠ -2 ∨ y ≠ -2 → agr x y z ≠ -2) : pF lo po lt pt lb pb v = -2 := by
  unfold lF oL at h
  unfold pF oP
  by_cases h1 : lo v = -2 ∧ lt v = -2
  · rw [if_pos h1]
  rw [if_neg h1] at h ⊢
  by_cases h2 : (lo v = -2 ∨ lt v = -2) ∧ lb v ≠ -2
  · rw [if_pos h2]
  rw [if_neg h2] at h ⊢
  by_cases h3 : agr (lo v) (lt v) (lb v) = -3
  · rw [if_pos h3]
  rw [if_neg h3] at h ⊢
  by_cases h4 : agr (po v) (pt v) (pb v) = -3
  · rw [if_pos h4]
  rw [if_neg h4] at h
  refine absurd h (hne _ _ _ ?_)
  by_cases q : lo v = -2
  · exact Or.inr (fun z => h1 ⟨q, z⟩)
  · exact Or.inl q
theorem agr_n2 (x y z : Int32) (h : x ≠ -2 ∨ y ≠ -2) : agr x y z ≠ -2 := by
  rcases agr_or (c := z) h with e | ⟨e, w⟩ | ⟨e, w⟩
  · rw [e]; decide
  · rw [e]; exact w
  · rw [e]; exact w
theorem out_root {made : Nat} {lo po lt pt lb pb : Nat → Int32} (hO : TF made lo po) (hT : TF made lt pt) (h : kF lo po lt pt lb pb 0 = 0) : lF lo po lt pt lb pb 0 ≠ -2 ∧ pF lo po lt pt lb pb 0 = -1 := by
  have po0 : po 0 = -1 := by
    rcases (hO.2.1 0 (by decide) hO.2.2).2.2 with z | z
    · exact z.2
    · omega
  have pt0 : pt 0 = -1 := by
    rcases (hT.2.1 0 (by decide) hT.2.2).2.2 with z | z
    · exact z.2
    · omega
  have h1 : ¬ (lo 0 = -2 ∧ lt 0 = -2) := fun z => hO.2.2 z.1
  have h2 : ¬ ((lo 0 = -2 ∨ lt 0 = -2) ∧ lb 0 ≠ -2) := fun z => z.1.elim hO.2.2 hT.2.2
  have ap : agr (po 0) (pt 0) (pb 0) = -1 := by unfold agr; rw [po0, pt0, if_pos rfl]
  have ap3 : ¬ agr (po 0) (pt 0) (pb 0) = -3 := by rw [ap]; decide
  unfold kF oK at h
  rw [if_neg h1, if_neg h2] at h
  by_cases h3 : agr (lo 0) (lt 0) (lb 0) = -3
  · rw [if_pos h3] at h; omega
  unfold lF oL pF oP
  rw [if_neg h1, if_neg h2, if_neg h3, if_neg ap3, if_neg h1, if_neg h2, if_neg h3, if_neg ap3]
  exact ⟨agr_n2 _ _ _ (Or.inl hO.2.2), ap⟩
/-- all that stays is put into the row -/
theorem all_in {made nO nT n : Nat} {oO oT o pp : Nat → Nat} {lo po lt pt lb pb : Nat → Int32} (hO : TF made lo po) (hT : TF made lt pt) (hM : MD nO nT oO oT po pt) (hS : Sh n o pp) (hc : Cl3 (lF lo po lt pt lb pb) (pF lo po lt pt lb pb))
    (hK : PK (Mq nO nT oO oT po pt (pF lo po lt pt lb pb)) (Cq nO nT oO oT po pt (pF lo po lt pt lb pb)) n n o pp) : ∀ k w, w < 24 → lF lo po lt pt lb pb w ≠ -2 → cm (pF lo po lt pt lb pb) k (nI w) = 0 → ∃ a, a < n ∧ o a = w := by
  intro k
  have root : ∀ w, w < 24 → nI w ≤ 0 → ∃ a, a < n ∧ o a = w := fun w hw z => by
    have : w = 0 := by
      rcases Nat.eq_zero_or_pos w with q | q
      · exact q
      · exact absurd z (nI_nle q (by omega))
    subst this
    exact ⟨0, hS.1, hS.2.2.1⟩
  induction k with
  | zero =>
    intro w hw _ e
    refine root w hw ?_
    have e' : nI w = 0 := e
    rw [e']; decide
  | succ k ih =>
    intro w hw hr e
    by_cases z : nI w ≤ 0
    · exact root w hw z
    · have w0 : 0 < w := by
        rcases Nat.eq_zero_or_pos w with q | q
        · subst q; exact absurd (by decide) z
        · exact q
      unfold cm at e
      rw [if_neg z, nI_clamp (by omega)] at e
      obtain ⟨u, hu, eu, hru⟩ := hc w w0 hw hr
      rw [eu] at e
      obtain ⟨j, hj, ej⟩ := ih u hu hru e
      have hI := Tq_ok (rp := pF lo po lt pt lb pb) hM hu nT (Nat.le_refl _)
      have hmem : ∃ k', k' < Mq nO nT oO oT po pt (pF lo po lt pt lb pb) u ∧ Cq nO nT oO oT po pt (pF lo po lt pt lb pb) u k' = w := by
        rcases (out_src hO hT hw hr).2 with ⟨y, _⟩ | ⟨y, yl⟩
        · exact hI.2.2.2.1 w hw (y.symm.trans eu) eu
        · obtain ⟨j', hj', e'⟩ := hM.2.2.2.2.2 w hw ((hT.lp hw).mp yl)
          subst e'
          exact hI.2.2.2.2 j' hj' ⟨y.symm.trans eu, eu⟩
      obtain ⟨k', hk', ek'⟩ := hmem
      obtain ⟨b1, b2⟩ := hK j hj
      rw [ej] at b1 b2
      obtain ⟨a, a0, ha, hpa, hca⟩ := ck_kth (pp := pp) (s := j) (k := k') n (by omega)
      exact ⟨a, ha, by rw [b2 a a0 ha hpa, hca, ek']⟩
def FrR (S S' : ab_S) : Prop := ∀ a b, (a ≠ 2 ∨ b ≠ 0) → (a ≠ 14 ∨ b ≠ 0) → (a < 4 ∨ 9 < a ∨ b ≠ 13) → S' a b = S a b
theorem sp_run {Q : ab_Po} {S : ab_S} {tO tT tB nO nT made : Nat} {oO oT : Nat → Nat} {lo po lt pt lb pb : Nat → Int32} (nO13 : tO ≠ 13) (nT13 : tT ≠ 13) (nB13 : tB ≠ 13) (eO : S 8 tO = lo ∧ S 7 tO = po) (eT : S 8 tT = lt ∧ S 7 tT = pt) (eB : S 8 tB = lb ∧ S 7 tB = pb) (hO : TF made lo po) (hT : TF made lt pt) (hM : MD nO nT oO oT po pt) (rO : RO S tO nO oO po) (rT : RO S tT nT oT pt)
    (h1 : cf (kF lo po lt pt lb pb) 24 ≠ 0 → ∀ S', FrR S S' → CLg (S' 2 0 2) (S' 14 0) (kF lo po lt pt lb pb) 24 → Q (.inl (some (nI (cf (kF lo po lt pt lb pb) 24)))) S')
    (h2 : cf (kF lo po lt pt lb pb) 24 = 0 → cf (K2 (lF lo po lt pt lb pb) (pF lo po lt pt lb pb)) 24 ≠ 0 → ∀ S', FrR S S' → CLg (S' 2 0 2) (S' 14 0) (K2 (lF lo po lt pt lb pb) (pF lo po lt pt lb pb)) 24 → Q (.inl (some (nI (cf (K2 (lF lo po lt pt lb pb) (pF lo po lt pt lb pb)) 24)))) S')
    (h3 : cf (kF lo po lt pt lb pb) 24 = 0 → cf (K2 (lF lo po lt pt lb pb) (pF lo po lt pt lb pb)) 24 = 0 → cf (K3 (lF lo po lt pt lb pb) (pF lo po lt pt lb pb)) 24 ≠ 0 → ∀ S', FrR S S' → CLg (S' 2 0 2) (S' 14 0) (K3 (lF lo po lt pt lb pb) (pF lo po lt pt lb pb)) 24 → Q (.inl (some (nI (cf (K3 (lF lo po lt pt lb pb) (pF lo po lt pt lb pb)) 24)))) S')
    (h4 : cf (kF lo po lt pt lb pb) 24 = 0 → cf (K2 (lF lo po lt pt lb pb) (pF lo po lt pt lb pb)) 24 = 0 → cf (K3 (lF lo po lt pt lb pb) (pF lo po lt pt lb pb)) 24 = 0 → ∀ S' n o pp, FrR S S' → S' 2 0 2 = 0 → CTd S' 13 (n, o, pp, lF lo po lt pt lb pb) → Okd made (n, o, pp, lF lo po lt pt lb pb) → (∀ a, 0 < a → a < n → pF lo po lt pt lb pb (o a) = nI (o (pp a))) → PK (Mq nO nT oO oT po pt (pF lo po lt pt lb pb)) (Cq nO nT oO oT po pt (pF lo po lt pt lb pb)) n n o pp → (∀ v, v < 24 → lF lo po lt pt lb pb v ≠ -2 → ∃ a, a < n ∧ o a = v) → Q (.inl (some 0)) S') : Sp_X2_run [.inr (2, 0), .inr (4, tO), .inr (4, tT), .inr (4, tB)] S Q := by
  refine ⟨Nat.le_of_ble_eq_true rfl, fun G hG => ?_⟩
  refine bl_X2_run_0 hG tO tT tB S (fun S1 e1 => sp_clear (fun S2 o2 c4 c78 => ?_))
  refine bl_X2_run_12 hG tO tT tB S2 ?_
  have f2 : FrR S S2 := fun a b z1 z2 z3 => by rw [o2 a b (by omega), e1, su_o (by omega)]
  have n2 : S2 2 0 2 = 0 := by rw [o2 2 0 (by omega), e1, su_at]
  -- the last phase
  have ph4 : cf (kF lo po lt pt lb pb) 24 = 0 → cf (K2 (lF lo po lt pt lb pb) (pF lo po lt pt lb pb)) 24 = 0 → cf (K3 (lF lo po lt pt lb pb) (pF lo po lt pt lb pb)) 24 = 0 → ∀ S3 : ab_S, FrR S S3 → S3 2 0 2 = 0 → S3 4 13 4 = 0 → (∀ v, v < 24 → S3 7 13 v = pF lo po lt pt lb pb v ∧ S3 8 13 v = lF lo po lt pt lb pb v) → Sp_X2_arrange [.inr (2, 0), .inr (4, tO), .inr (4, tT)] S3 (ab_back Q G 90 [some (.inr (2, 0)), some (.inr (4, tO)), some (.inr (4, tT)), some (.inr (4, tB)), some (.inl (nI 24))] [] 0) := fun a1 a2 a3 S3 f3 b2 b4 b78 => by
    have rt := out_root hO hT (cf_all0 a1 0 (by decide))
    have hc : Cl3 (lF lo po lt pt lb pb) (pF lo po lt pt lb pb) := Cl3.of (cf_all0 a2)
    have tr : ∀ t n o p, t ≠ 13 → RO S t n o p → RO S3 t n o p := fun t n o p ht h => by
      unfold RO
      rw [f3 4 t (by omega) (by omega) (by omega), f3 5 t (by omega) (by omega) (by omega), f3 7 t (by omega) (by omega) (by omega)]
      exact h
    refine sp_arrange hM (tr _ _ _ _ nO13 rO) (tr _ _ _ _ nT13 rT) (fun v hv => (b78 v hv).1) rt.2 b4 (fun S4 n o pp f4 R4 hS4 hr4 hK4 => ?_)
    have g8 : S4 8 13 = S3 8 13 := f4 8 13 (Or.inl (by decide))
    have g7 : S4 7 13 = S3 7 13 := f4 7 13 (Or.inl (by decide))
    have g2 : S4 2 0 = S3 2 0 := f4 2 0 (Or.inr (by decide))
    have ain : ∀ v, v < 24 → lF lo po lt pt lb pb v ≠ -2 → ∃ a, a < n ∧ o a = v := fun v hv hr => by
      refine all_in hO hT hM hS4 hc hK4 24 v hv hr ?_
      rcases Nat.eq_zero_or_pos v with q | q
      · subst q
        show (if nI 0 ≤ 0 then nI 0 else cm (pF lo po lt pt lb pb) 23 (pF lo po lt pt lb pb (nI 0).toNatClampNeg)) = 0
        rw [if_pos (by decide)]; rfl
      · have := cf_all0 a3 v hv
        unfold K3 at this
        apply Classical.byContradiction
        intro z
        rw [if_pos ⟨q, hr, z⟩] at this
        omega
    have stay : ∀ a, a < n → lF lo po lt pt lb pb (o a) ≠ -2 := fun a ha z => by
      have pz := out_none z agr_n2
      rcases Nat.eq_zero_or_pos a with q | q
      · subst q; rw [hS4.2.2.1] at z; exact rt.1 z
      · have hx := hr4 a q ha
        rw [pz] at hx
        have hy := hS4.2.2.2.1 (pp a) (by have := hS4.2.2.2.2.2.1 a q ha; omega)
        exact nu_ne (i := o (pp a)) (by omega) (by decide) hx.symm
    refine bl_X2_run_90 hG tO tT tB _ S4 ?_
    rw [g2, b2]
    refine h4 a1 a2 a3 S4 n o pp (fun a b z1 z2 z3 => by rw [f4 a b (by omega), f3 a b z1 z2 z3]) (by rw [g2]; exact b2) ⟨⟨R4.1, fun i hi => ?_, ?_, fun i i0 hi => ?_⟩, fun v hv hno => ?_⟩ ⟨hS4, fun i hi => ?_⟩ hr4 hK4 ain
    · exact ⟨(R4.2.2 i hi).2.1, (R4.2.2 i hi).2.2, by rw [g8]; exact (b78 _ (hS4.2.2.2.1 i hi)).2⟩
    · show S4 7 13 0 = -1
      rw [g7, (b78 0 (by decide)).1]; exact rt.2
    · show S4 7 13 (o i) = nI (o (pp i))
      rw [g7, (b78 _ (hS4.2.2.2.1 i hi)).1]; exact hr4 i i0 hi
    · have hz : lF lo po lt pt lb pb v = -2 := by
        apply Classical.byContradiction
        intro w
        obtain ⟨a, ha, e⟩ := ain v hv w
        exact hno a ha e
      rw [g7, g8, (b78 v hv).1, (b78 v hv).2]
      exact ⟨out_none hz agr_n2, hz⟩
    · have o24 := hS4.2.2.2.1 i hi
      show o i < made ∧ ∃ c, c ≤ 5 ∧ lF lo po lt pt lb pb (o i) = nI c
      rcases (out_src hO hT o24 (stay i hi)).1 with ⟨e, w⟩ | ⟨e, w⟩
      · rw [e]; exact ⟨(hO.2.1 _ o24 w).1, (hO.2.1 _ o24 w).2.1⟩
      · rw [e]; exact ⟨(hT.2.1 _ o24 w).1, (hT.2.1 _ o24 w).2.1⟩
  have cnt : ∀ (kd : Nat → Nat) (S3 : ab_S), CLg (S3 2 0 2) (S3 14 0) kd 24 → (S3 2 0 2 = 0 ↔ cf kd 24 = 0) := fun kd S3 h => by
    rw [h.1]
    have := cf_le kd 24
    exact ⟨fun z => (nI_eq (b := 0) (by omega) (by omega)).mp z, fun z => by rw [z]; rfl⟩
  -- the phase before
  have ph3 : cf (kF lo po lt pt lb pb) 24 = 0 → cf (K2 (lF lo po lt pt lb pb) (pF lo po lt pt lb pb)) 24 = 0 → ∀ S3 : ab_S, FrR S S3 → S3 2 0 2 = 0 → S3 4 13 4 = 0 → (∀ v, v < 24 → S3 7 13 v = pF lo po lt pt lb pb v ∧ S3 8 13 v = lF lo po lt pt lb pb v) → Sp_X2_nameThoseCutOff [.inr (2, 0)] S3 (ab_back Q G 77 [some (.inr (2, 0)), some (.inr (4, tO)), some (.inr (4, tT)), some (.inr (4, tB)), some (.inl (nI 24))] [] 0) := fun a1 a2 S3 f3 b2 b4 b78 => by
    refine sp_cutOff (Cl3.of (cf_all0 a2)) (fun v hv => (b78 v hv).2) (fun v hv => (b78 v hv).1) b2 (fun S4 f4 hC => ?_)
    have f34 : FrR S S4 := fun a b z1 z2 z3 => by rw [f4 a b z1 z2, f3 a b z1 z2 z3]
    refine bl_X2_run_77 hG tO tT tB _ S4 ⟨fun z => ?_, fun z => ?_⟩
    · exact ph4 a1 a2 ((cnt _ _ hC).mp z) S4 f34 z (by rw [f4 4 13 (by omega) (by omega)]; exact b4) (fun v hv => by rw [f4 7 13 (by omega) (by omega), f4 8 13 (by omega) (by omega)]; exact b78 v hv)
    · rw [hC.1]; exact h3 a1 a2 (fun y => z ((cnt _ _ hC).mpr y)) S4 f34 hC
  -- the phase before that
  have ph2 : cf (kF lo po lt pt lb pb) 24 = 0 → ∀ S3 : ab_S, FrR S S3 → S3 2 0 2 = 0 → S3 4 13 4 = 0 → (∀ v, v < 24 → S3 7 13 v = pF lo po lt pt lb pb v ∧ S3 8 13 v = lF lo po lt pt lb pb v) → Sp_X2_nameThoseWithoutParent [.inr (2, 0)] S3 (ab_back Q G 66 [some (.inr (2, 0)), some (.inr (4, tO)), some (.inr (4, tT)), some (.inr (4, tB)), some (.inl (nI 24))] [] 0) := fun a1 S3 f3 b2 b4 b78 => by
    refine sp_noParent (fun v hv => (b78 v hv).2) (fun v hv => (b78 v hv).1) b2 (fun S4 f4 hC => ?_)
    have f34 : FrR S S4 := fun a b z1 z2 z3 => by rw [f4 a b z1 z2, f3 a b z1 z2 z3]
    refine bl_X2_run_66 hG tO tT tB _ S4 ⟨fun z => ?_, fun z => ⟨fun y => absurd y z, fun _ => ?_⟩⟩
    · exact ph3 a1 ((cnt _ _ hC).mp z) S4 f34 z (by rw [f4 4 13 (by omega) (by omega)]; exact b4) (fun v hv => by rw [f4 7 13 (by omega) (by omega), f4 8 13 (by omega) (by omega)]; exact b78 v hv)
    · rw [hC.1]; exact h2 a1 (fun y => z ((cnt _ _ hC).mpr y)) S4 f34 hC
  -- the first phase
  have key : ∀ v, v ≤ 24 → ∀ S3 : ab_S, FrR S S3 → S3 4 13 4 = 0 → (∀ w, w < 24 → S3 7 13 w = (if w < v then pF lo po lt pt lb pb w else -2) ∧ S3 8 13 w = (if w < v then lF lo po lt pt lb pb w else -2)) → CLg (S3 2 0 2) (S3 14 0) (kF lo po lt pt lb pb) v → G 15 [some (.inr (2, 0)), some (.inr (4, tO)), some (.inr (4, tT)), some (.inr (4, tB)), some (.inl (nI v))] [] S3 0 := by
    refine ind_up _ ?_ ?_
    · intro S3 f3 b4 b78 hC
      have b78' : ∀ w, w < 24 → S3 7 13 w = pF lo po lt pt lb pb w ∧ S3 8 13 w = lF lo po lt pt lb pb w := fun w hw => by
        have := b78 w hw
        rw [if_pos hw, if_pos hw] at this
        exact this
      refine bl_X2_run_15 hG tO tT tB _ S3 ⟨fun _ => ⟨fun z => ph2 ((cnt _ _ hC).mp z) S3 f3 z b4 b78', fun z => ⟨fun y => absurd y z, fun _ => ⟨fun y => absurd y z, fun _ => ?_⟩⟩⟩, fun z => absurd (by decide) z⟩
      rw [hC.1]; exact h1 (fun y => z ((cnt _ _ hC).mpr y)) S3 f3 hC
    · intro v hv ih S3 f3 b4 b78 hC
      have x8 : ∀ t, t ≠ 13 → S3 8 t = S 8 t := fun t ht => f3 8 t (by omega) (by omega) (by omega)
      have x7 : ∀ t, t ≠ 13 → S3 7 t = S 7 t := fun t ht => f3 7 t (by omega) (by omega) (by omega)
      have sk : lo v = -2 ∧ lt v = -2 → G 15 [some (.inr (2, 0)), some (.inr (4, tO)), some (.inr (4, tT)), some (.inr (4, tB)), some (.inl (nI (v + 1)))] [] S3 0 := fun hb => by
        refine ih S3 f3 b4 (fun w hw => ?_) (hC.z (by unfold kF oK; rw [if_pos hb]))
        by_cases q : w = v
        · subst q
          have := b78 w hw
          rw [if_neg (by omega), if_neg (by omega)] at this
          rw [if_pos (by omega), if_pos (by omega)]
          unfold pF oP lF oL
          rw [if_pos hb, if_pos hb]; exact this
        · have := b78 w hw
          by_cases y : w < v
          · rw [if_pos y, if_pos y] at this; rw [if_pos (by omega), if_pos (by omega)]; exact this
          · rw [if_neg y, if_neg y] at this; rw [if_neg (by omega), if_neg (by omega)]; exact this
      have st : ¬ (lo v = -2 ∧ lt v = -2) → Sp_X2_settle [.inr (2, 0), .inl (nI v), .inr (4, tO), .inr (4, tT), .inr (4, tB)] S3 (ab_back Q G 49 [some (.inr (2, 0)), some (.inr (4, tO)), some (.inr (4, tT)), some (.inr (4, tB)), some (.inl (nI v))] [] 0) := fun hb => by
        have hcf := cf_le (kF lo po lt pt lb pb) v
        have bv78 := b78 v hv
        rw [if_neg (by omega), if_neg (by omega)] at bv78
        refine sp_settle hv hC.1 (by omega) bv78.1 bv78.2 (by rw [x8 tO nO13, x8 tT nT13, eO.1, eT.1]; exact hb) (fun S4 hst => ?_)
        rw [x8 tO nO13, x8 tT nT13, x8 tB nB13, x7 tO nO13, x7 tT nT13, x7 tB nB13, eO.1, eO.2, eT.1, eT.2, eB.1, eB.2] at hst
        obtain ⟨s1, s2, s3, s4, s5, s6⟩ := hst
        refine bl_X2_run_49 hG tO tT tB _ S4 ?_
        rw [nI_1]
        refine ih S4 (fun a b z1 z2 z3 => by rw [s1 a b z1 z2 (by omega)]; exact f3 a b z1 z2 z3) (by rw [s1 4 13 (by omega) (by omega) (by omega)]; exact b4) (fun w hw => ?_) ?_
        · by_cases q : w = v
          · subst q
            rw [if_pos (by omega), if_pos (by omega)]
            exact ⟨s3, s4⟩
          · have := b78 w hw
            rw [(s2 w q).1, (s2 w q).2]
            by_cases y : w < v
            · rw [if_pos y, if_pos y] at this; rw [if_pos (by omega), if_pos (by omega)]; exact this
            · rw [if_neg y, if_neg y] at this; rw [if_neg (by omega), if_neg (by omega)]; exact this
        · rcases Nat.eq_zero_or_pos (kF lo po lt pt lb pb v) with q | q
          · obtain ⟨y1, y2⟩ := s5 q
            rw [y1, y2]; exact hC.z q
          · obtain ⟨y1, y2, y3⟩ := s6 q
            rw [y1]; exact hC.s q y2 y3
      refine bl_X2_run_15 hG tO tT tB _ S3 ⟨fun z => absurd z (nI_ge (b := 24) hv (by decide)), fun _ => sp_holds ?_⟩
      rw [hl_n hv, x8 tO nO13, eO.1]
      refine bl_X2_run_28 hG tO tT tB _ _ S3 ?_
      by_cases co : lo v = -2
      · rw [if_pos co]
        refine ⟨fun _ => sp_holds ?_, fun z => absurd rfl z⟩
        rw [hl_n hv, x8 tT nT13, eT.1]
        refine bl_X2_run_37 hG tO tT tB _ _ S3 ?_
        rw [nI_1]
        by_cases ct : lt v = -2
        · rw [if_pos ct]; exact ⟨fun _ => sk ⟨co, ct⟩, fun z => absurd rfl z⟩
        · rw [if_neg ct]; exact ⟨fun z => absurd z (by decide), fun _ => st (fun z => ct z.2)⟩
      · rw [if_neg co]
        exact ⟨fun z => absurd z (by decide), fun _ => st (fun z => co z.1)⟩
  exact key 0 (by omega) S2 f2 c4 (fun w hw => by rw [if_neg (by omega), if_neg (by omega)]; exact c78 w hw) (by rw [n2]; exact CLg.nil)
