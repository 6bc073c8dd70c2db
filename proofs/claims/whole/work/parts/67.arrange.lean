/-! The class puts the merged nodes into their row. -/
def Fr (S S' : ab_S) : Prop := ∀ a b, ((a ≠ 4 ∧ a ≠ 5 ∧ a ≠ 6 ∧ a ≠ 9) ∨ b ≠ 13) → S' a b = S a b
theorem Fr.tr {S S1 S2 : ab_S} (h : Fr S S1) (h2 : Fr S1 S2) : Fr S S2 := fun a b z => (h2 a b z).trans (h a b z)
theorem Fr.rf {S : ab_S} : Fr S S := fun _ _ _ => rfl
theorem sp_icn {Q : ab_Po} {S : ab_S} {t v : Nat} {x : Int32} (hv : v < 24) (hQ : Q (.inl (some (if S 7 t v = x ∧ S 7 13 v = x then 1 else 0))) S) : Sp_X2_isChildNowAsIn [.inr (2, 0), .inr (4, t), .inl (nI v), .inl x] S Q := by
  refine ⟨Nat.le_of_ble_eq_true rfl, fun G hG => ?_⟩
  refine bl_X2_isChildNowAsIn_0 hG t _ _ S ?_
  have iv : vp_in (nI v) 24 := vp_in_nI hv (by decide)
  rw [nI_clamp (by omega)]
  refine ⟨iv, fun h1 => ⟨iv, fun h2 => ?_, fun h2 => ?_⟩, fun h1 => ?_⟩
  · rw [if_pos ⟨h1, h2⟩] at hQ; exact hQ
  · rw [if_neg (fun z => h2 z.2)] at hQ; exact hQ
  · rw [if_neg (fun z => h1 z.1)] at hQ; exact hQ
def Mq (nO nT : Nat) (oO oT : Nat → Nat) (po pt rp : Nat → Int32) (p : Nat) : Nat := (Tq (Oq oO po rp p nO) oT po pt rp p nT).1
def Cq (nO nT : Nat) (oO oT : Nat → Nat) (po pt rp : Nat → Int32) (p : Nat) : Nat → Nat := (Tq (Oq oO po rp p nO) oT po pt rp p nT).2.1
/-- a row of the class as a merge reads it -/
def RO (S : ab_S) (t n : Nat) (o : Nat → Nat) (po : Nat → Int32) : Prop := S 4 t 4 = nI n ∧ n ≤ 24 ∧ (∀ j, j < n → S 5 t j = nI (o j)) ∧ (∀ v, v < 24 → S 7 t v = po v) ∧ t ≠ 13
theorem RO.fr {S S' : ab_S} {t n : Nat} {o : Nat → Nat} {po : Nat → Int32} (h : RO S t n o po) (hf : Fr S S') : RO S' t n o po := by
  have hne := h.2.2.2.2
  unfold RO
  rw [hf 4 t (Or.inr hne), hf 5 t (Or.inr hne), hf 7 t (Or.inr hne)]
  exact h
theorem sp_arrangeChildren {Q : ab_Po} {S : ab_S} {tO tT nO nT n i p : Nat} {oO oT o pp c0 : Nat → Nat} {po pt rp : Nat → Int32} (hM : MD nO nT oO oT po pt) (hO : RO S tO nO oO po) (hT : RO S tT nT oT pt) (hrp : ∀ v, v < 24 → S 7 13 v = rp v) (r0 : rp 0 = -1) (hp : p < 24) (hR : Rw S 13 n o) (hA : AI rp p i 0 c0 n o pp) (hK : PK (Mq nO nT oO oT po pt rp) (Cq nO nT oO oT po pt rp) i n o pp)
    (hQ : ∀ S' n' o' pp', Fr S S' → Rw S' 13 n' o' → Sh n' o' pp' → (∀ a, 0 < a → a < n' → rp (o' a) = nI (o' (pp' a))) → i < n' → (∀ a, i + 1 < a → a < n' → pp' a < i + 1) → PK (Mq nO nT oO oT po pt rp) (Cq nO nT oO oT po pt rp) (i + 1) n' o' pp' → Q (.inl none) S') : Sp_X2_arrangeChildren [.inr (2, 0), .inl (nI i), .inr (4, tO), .inr (4, tT)] S Q := by
  refine ⟨Nat.le_of_ble_eq_true rfl, fun G hG => ?_⟩
  have hin : i < n := by have := hA.2.2.1; omega
  have hn24 := hA.1.2.1
  have hnT := hT.2.1
  have hnO := hO.2.1
  have hA0 : AI rp p i (Oq oO po rp p 0).1 (Oq oO po rp p 0).2 n o pp := ⟨hA.1, hA.2.1, hA.2.2.1, fun k hk => absurd hk (Nat.not_lt_zero k), hA.2.2.2.2.1, hA.2.2.2.2.2⟩
  refine bl_X2_arrangeChildren_0 hG _ tO tT S ?_
  rw [nI_clamp (by omega), (hR.2.2 i hin).2.1, hA.2.2.2.2.2, nI_1]
  refine ⟨vp_in_nI (by omega) (by decide), ?_⟩
  -- theirs
  have passT : ∀ k, k ≤ nT → ∀ (S1 : ab_S) (n1 : Nat) (o1 pp1 : Nat → Nat), Fr S S1 → Rw S1 13 n1 o1 → AI rp p i (Tq (Oq oO po rp p nO) oT po pt rp p k).1 (Tq (Oq oO po rp p nO) oT po pt rp p k).2.1 n1 o1 pp1 → PK (Mq nO nT oO oT po pt rp) (Cq nO nT oO oT po pt rp) i n1 o1 pp1 → G 77 [some (.inr (2, 0)), some (.inl (nI i)), some (.inr (4, tO)), some (.inr (4, tT)), some (.inl (nI p)), some (.inl (nI (i + 1 + (Tq (Oq oO po rp p nO) oT po pt rp p k).2.2))), some (.inl (nI k)), none] [] S1 0 := by
    refine ind_up _ ?_ ?_
    · intro S1 n1 o1 pp1 f1 R1 A1 K1
      refine bl_X2_arrangeChildren_77 hG _ tO tT _ _ _ S1 ?_
      rw [(hT.fr f1).1]
      refine pk_le nT nT (fun _ => hQ S1 n1 o1 pp1 f1 R1 A1.1 A1.2.1 (by have := A1.2.2.1; omega) (fun a a1 a2 => ?_) (A1.done K1 rfl rfl)) (fun z => by omega)
      rcases Nat.lt_or_ge (i + (Tq (Oq oO po rp p nO) oT po pt rp p nT).1) a with w | w
      · have := A1.2.2.2.2.1 a w a2; omega
      · have := (A1.2.2.2.1 (a - (i + 1)) (by omega)).2
        rw [show i + 1 + (a - (i + 1)) = a by omega] at this
        omega
    · intro k hk ih S1 n1 o1 pp1 f1 R1 A1 K1
      have hI := Tq_ok (rp := rp) hM hp k (by omega)
      have hT1 := hT.fr f1
      have hO1 := hO.fr f1
      have ok := hM.2.2.1 k hk
      have hn1 := A1.1.2.1
      have r1 : S1 7 13 (oT k) = rp (oT k) := by rw [f1 7 13 (Or.inl (by decide))]; exact hrp _ ok
      refine bl_X2_arrangeChildren_77 hG _ tO tT _ _ _ S1 ?_
      have hnT := hT.2.1
      rw [hT1.1, nI_clamp (by omega), hT1.2.2.1 k hk]
      refine pk_le nT k (fun z => by omega) (fun _ => ⟨vp_in_nI (by omega) (by decide), sp_icn ok ?_⟩)
      refine bl_X2_arrangeChildren_104 hG _ tO tT _ _ _ _ _ S1 ?_
      rw [hT1.2.2.2.1 _ ok, r1, nI_1]
      by_cases c : pt (oT k) = nI p ∧ rp (oT k) = nI p
      · rw [if_pos c]
        refine ⟨fun z => absurd z (by decide), fun _ => sp_icn ok ?_⟩
        refine bl_X2_arrangeChildren_116 hG _ tO tT _ _ _ _ _ S1 ?_
        rw [hO1.2.2.2.1 _ ok, r1]
        by_cases c2 : po (oT k) = nI p
        · rw [if_pos ⟨c2, c.2⟩]
          refine ⟨fun z => absurd z (by decide), fun _ => ⟨vp_in_nI (by omega) (by decide), ?_⟩⟩
          rw [Tq_o c c2] at ih
          obtain ⟨x1, x2⟩ := idx_ok _ (hI.2.2.2.1 (oT k) ok c2 c.2)
          have e := A1.2.2.2.1 _ x1
          have lt := A1.2.2.1
          have s6 := (R1.2.2 (i + 1 + idx (Tq (Oq oO po rp p nO) oT po pt rp p k).2.1 (oT k) (Tq (Oq oO po rp p nO) oT po pt rp p k).1) (by omega)).2.2
          rw [e.1, x2] at s6
          rw [nI_clamp (by omega), s6, nI_1, nI_1]
          exact ih S1 n1 o1 pp1 f1 R1 A1 K1
        · rw [if_neg (fun z => c2 z.1)]
          refine ⟨fun _ => ?_, fun z => absurd rfl z⟩
          rw [Tq_y c c2] at ih
          have new := A1.new hp r0 c.2 (hI.fresh hM hk c2)
          have n24 := lt24_new A1.1 ok new
          have lt := A1.2.2.1
          have hb := hI.1
          refine sp_putInto R1 (by omega) n24 ok new (fun S2 g2 R2 => ?_)
          obtain ⟨A2, K2'⟩ := A1.ins K1 hb ok c.2 n24 new
          refine bl_X2_arrangeChildren_130 hG _ tO tT _ _ _ _ S2 ⟨vp_in_nI (by omega) (by decide), ?_⟩
          have s6 := (R2.2.2 (i + 1 + (Tq (Oq oO po rp p nO) oT po pt rp p k).2.2) (by omega)).2.2
          rw [insO_in (Nat.le_refl _) (by omega)] at s6
          rw [nI_clamp (by omega), s6, nI_1, nI_1]
          exact ih S2 _ _ _ (f1.tr g2) R2 A2 K2'
      · rw [if_neg c]
        rw [Tq_n c] at ih
        exact ⟨fun _ => ih S1 n1 o1 pp1 f1 R1 A1 K1, fun z => absurd rfl z⟩
  -- ours
  have passO : ∀ k, k ≤ nO → ∀ (S1 : ab_S) (n1 : Nat) (o1 pp1 : Nat → Nat), Fr S S1 → Rw S1 13 n1 o1 → AI rp p i (Oq oO po rp p k).1 (Oq oO po rp p k).2 n1 o1 pp1 → PK (Mq nO nT oO oT po pt rp) (Cq nO nT oO oT po pt rp) i n1 o1 pp1 → G 19 [some (.inr (2, 0)), some (.inl (nI i)), some (.inr (4, tO)), some (.inr (4, tT)), some (.inl (nI p)), some (.inl (nI (i + 1 + (Oq oO po rp p k).1))), some (.inl (nI k)), none] [] S1 0 := by
    refine ind_up _ ?_ ?_
    · intro S1 n1 o1 pp1 f1 R1 A1 K1
      refine bl_X2_arrangeChildren_19 hG _ tO tT _ _ _ S1 ?_
      rw [(hO.fr f1).1, nI_1]
      exact pk_le nO nO (fun _ => passT 0 (by omega) S1 n1 o1 pp1 f1 R1 A1 K1) (fun z => by omega)
    · intro k hk ih S1 n1 o1 pp1 f1 R1 A1 K1
      have hO1 := hO.fr f1
      have ok := hM.1 k hk
      have r1 : S1 7 13 (oO k) = rp (oO k) := by rw [f1 7 13 (Or.inl (by decide))]; exact hrp _ ok
      have hnO := hO.2.1
      refine bl_X2_arrangeChildren_19 hG _ tO tT _ _ _ S1 ?_
      rw [hO1.1, nI_clamp (by omega), hO1.2.2.1 k hk]
      refine pk_le nO k (fun z => by omega) (fun _ => ⟨vp_in_nI (by omega) (by decide), sp_icn ok ?_⟩)
      refine bl_X2_arrangeChildren_46 hG _ tO tT _ _ _ _ _ S1 ?_
      rw [hO1.2.2.2.1 _ ok, r1, nI_1]
      by_cases c : po (oO k) = nI p ∧ rp (oO k) = nI p
      · rw [if_pos c]
        refine ⟨fun z => absurd z (by decide), fun _ => ?_⟩
        rw [Oq_y c] at ih
        have hq := Oq_ok (rp := rp) hM p k (by omega)
        have new := A1.new hp r0 c.2 (v := oO k) (fun k' hk' e => by
          obtain ⟨j, hj, e2, _⟩ := hq.1 k' hk'
          have := hM.2.1 j k (by omega) hk (e2.symm.trans e)
          omega)
        have n24 := lt24_new A1.1 ok new
        have lt := A1.2.2.1
        refine sp_putInto R1 (by omega) n24 ok new (fun S2 g2 R2 => ?_)
        obtain ⟨A2, K2'⟩ := A1.ins K1 (Nat.le_refl _) ok c.2 n24 new
        refine bl_X2_arrangeChildren_60 hG _ tO tT _ _ _ _ S2 ?_
        rw [nI_1, nI_1]
        exact ih S2 _ _ _ (f1.tr g2) R2 A2 K2'
      · rw [if_neg c]
        rw [Oq_n c] at ih
        exact ⟨fun _ => ih S1 n1 o1 pp1 f1 R1 A1 K1, fun z => absurd rfl z⟩
  exact passO 0 (by omega) S n o pp Fr.rf hR hA0 hK
/-- all that arrange leaves -/
theorem sp_arrange {Q : ab_Po} {S : ab_S} {tO tT nO nT : Nat} {oO oT : Nat → Nat} {po pt rp : Nat → Int32} (hM : MD nO nT oO oT po pt) (hO : RO S tO nO oO po) (hT : RO S tT nT oT pt) (hrp : ∀ v, v < 24 → S 7 13 v = rp v) (r0 : rp 0 = -1) (h4 : S 4 13 4 = 0)
    (hQ : ∀ S' n' o' pp', Fr S S' → Rw S' 13 n' o' → Sh n' o' pp' → (∀ a, 0 < a → a < n' → rp (o' a) = nI (o' (pp' a))) → PK (Mq nO nT oO oT po pt rp) (Cq nO nT oO oT po pt rp) n' n' o' pp' → Q (.inl none) S') : Sp_X2_arrange [.inr (2, 0), .inr (4, tO), .inr (4, tT)] S Q := by
  refine ⟨Nat.le_of_ble_eq_true rfl, fun G hG => ?_⟩
  have hR0 : Rw S 13 0 (fun _ => 0) := ⟨h4, by omega, fun i hi => absurd hi (Nat.not_lt_zero i)⟩
  refine bl_X2_arrange_0 hG tO tT S (sp_putInto (sl := 0) (v := 0) hR0 (by omega) (by omega) (by omega) (fun i hi => absurd hi (Nat.not_lt_zero i)) (fun S1 g1 R1 => ?_))
  refine bl_X2_arrange_9 hG tO tT S1 ?_
  have key : ∀ k, k ≤ 24 → ∀ i, i + k = 24 → ∀ (S1 : ab_S) (n : Nat) (o pp : Nat → Nat), Fr S S1 → Rw S1 13 n o → Sh n o pp → (∀ a, 0 < a → a < n → rp (o a) = nI (o (pp a))) → i ≤ n → (∀ a, i < a → a < n → pp a < i) → PK (Mq nO nT oO oT po pt rp) (Cq nO nT oO oT po pt rp) i n o pp → G 11 [some (.inr (2, 0)), some (.inr (4, tO)), some (.inr (4, tT)), some (.inl (nI i))] [] S1 0 := by
    intro k
    induction k with
    | zero =>
      intro _ i hi S1 n o pp f1 R1 hS hr hin hl hK
      have e : i = 24 := by omega
      have e2 : n = i := by have := hS.2.1; omega
      subst e2
      subst e
      exact bl_X2_arrange_11 hG tO tT _ S1 ⟨fun _ => hQ S1 24 o pp f1 R1 hS hr hK, fun z => absurd (by decide) z⟩
    | succ k ih =>
      intro hk i hi S1 n o pp f1 R1 hS hr hin hl hK
      refine bl_X2_arrange_11 hG tO tT _ S1 ⟨fun z => absurd z (nI_ge (b := 24) (by omega) (by decide)), fun _ => ?_⟩
      rw [R1.1]
      have hn := hS.2.1
      refine pk_le n i (fun w => ?_) (fun w => ?_)
      · have : n = i := by omega
        subst this
        exact hQ S1 n o pp f1 R1 hS hr hK
      · refine sp_arrangeChildren (c0 := fun _ => 0) hM (hO.fr f1) (hT.fr f1) (fun v hv => by rw [f1 7 13 (Or.inl (by decide))]; exact hrp v hv) r0 (hS.2.2.2.1 i w) R1 ⟨hS, hr, w, fun k hk => absurd hk (Nat.not_lt_zero k), hl, rfl⟩ hK (fun S2 n2 o2 pp2 f2 R2 hS2 hr2 hi2 hl2 hK2 => ?_)
        refine bl_X2_arrange_35 hG tO tT _ S2 ?_
        rw [nI_1]
        exact ih (by omega) (i + 1) (by omega) S2 n2 o2 pp2 (f1.tr f2) R2 hS2 hr2 hi2 hl2 hK2
  have hS1 : Sh 1 (insO (fun _ => 0) (fun _ => 0) 0 1) (fun _ => 0) := by
    refine ⟨by decide, by decide, by rw [insO_in (Nat.le_refl _) (by omega)], fun i hi => ?_, fun i j hi hj _ => by omega, Lp1⟩
    have : i = 0 := by omega
    subst this
    rw [insO_in (Nat.le_refl _) (by omega)]; decide
  exact key 24 (Nat.le_refl _) 0 (by omega) S1 1 _ (fun _ => 0) g1 R1 hS1 (fun a a0 ha => by omega) (by omega) (fun a a0 ha => by omega) (fun j hj => absurd hj (Nat.not_lt_zero j))
