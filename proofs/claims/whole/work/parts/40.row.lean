/-! Numbers, counting, loops. -/
theorem ind_up {n : Nat} (P : Nat → Prop) (hn : P n) (hs : ∀ i, i < n → P (i + 1) → P i) : ∀ i, i ≤ n → P i := by
  intro i hi
  obtain ⟨d, hd⟩ : ∃ d, d = n - i := ⟨_, rfl⟩
  induction d generalizing i with
  | zero =>
    have e : i = n := by omega
    rw [e]; exact hn
  | succ d ih => exact hs i (by omega) (ih (i + 1) (by omega) (by omega))
theorem nu_ne {i : Nat} {c : Int32} (h : i < 2 ^ 31) (hc : c < 0) : ¬ nI i = c := fun e => nI_pos h (by rw [e]; exact hc)
/-- how many of 1 .. i - 1 have the parent s -/
def ck (pp : Nat → Nat) (s : Nat) : Nat → Nat
  | 0 => 0
  | i + 1 => ck pp s i + if 0 < i ∧ pp i = s then 1 else 0
theorem ck_yes {pp : Nat → Nat} {s i : Nat} (h0 : 0 < i) (h : pp i = s) : ck pp s (i + 1) = ck pp s i + 1 := by simp [ck, h0, h]
theorem ck_no {pp : Nat → Nat} {s i : Nat} (h : ¬ (0 < i ∧ pp i = s)) : ck pp s (i + 1) = ck pp s i := by simp [ck, h]
theorem ck_le {pp : Nat → Nat} {s : Nat} : ∀ i, ck pp s i ≤ i
  | 0 => Nat.le_refl _
  | i + 1 => by
    have h := ck_le (pp := pp) (s := s) i
    simp only [ck]
    split <;> omega
theorem ck_zero {pp : Nat → Nat} {s : Nat} : ∀ i, (∀ j, 0 < j → j < i → pp j ≠ s) → ck pp s i = 0
  | 0, _ => rfl
  | i + 1, h => by
    rw [ck_no (fun q => h i q.1 (Nat.lt_succ_self i) q.2)]
    exact ck_zero i (fun j h1 h2 => h j h1 (by omega))
theorem ck_mono {pp : Nat → Nat} {s : Nat} {a : Nat} : ∀ b, a ≤ b → ck pp s a ≤ ck pp s b
  | 0, h => by rw [Nat.le_zero.mp h]; exact Nat.le_refl _
  | b + 1, h => by
    rcases Nat.lt_or_ge b a with q | q
    · rw [show a = b + 1 by omega]; exact Nat.le_refl _
    · have := ck_mono (pp := pp) (s := s) b q
      simp only [ck]
      omega
/-! A tree of the class: its row of n nodes o, the parent's spot pp of each but the first. -/
def Rw (S : ab_S) (t n : Nat) (o : Nat → Nat) : Prop := S 4 t 4 = nI n ∧ n ≤ 24 ∧ ∀ i, i < n → o i < 24 ∧ S 5 t i = nI (o i) ∧ S 6 t (o i) = nI i
def Pa (S : ab_S) (t n : Nat) (o pp : Nat → Nat) : Prop := (∀ i, 0 < i → i < n → pp i < i ∧ S 7 t (o i) = nI (o (pp i))) ∧ S 7 t (o 0) = -1
theorem Rw.inj {S : ab_S} {t n : Nat} {o : Nat → Nat} (h : Rw S t n o) {i j : Nat} (hi : i < n) (hj : j < n) (e : o i = o j) : i = j := by
  have h1 := (h.2.2 i hi).2.2
  have h2 := (h.2.2 j hj).2.2
  rw [e, h2] at h1
  exact ((nI_eq (by have := h.2.1; omega) (by have := h.2.1; omega)).mp h1).symm
/-- where the part that begins at s has ended -/
def En (n : Nat) (pp : Nat → Nat) (s e : Nat) : Prop := s < e ∧ e ≤ n ∧ (∀ j, s < j → j < e → s ≤ pp j) ∧ (e = n ∨ pp e < s)
theorem sp_parentSpot {Q : ab_Po} {S : ab_S} {t n i : Nat} {o pp : Nat → Nat} (hR : Rw S t n o) (hP : Pa S t n o pp) (h0 : 0 < i) (hi : i < n) (hQ : Q (.inl (some (nI (pp i)))) S) : Sp_X4_parentSpot [.inr (4, t), .inl (nI i)] S Q := by
  refine ⟨Nat.le_of_ble_eq_true rfl, fun G hG => ?_⟩
  obtain ⟨h4, hn, hrow⟩ := hR
  obtain ⟨a1, a2, a3⟩ := hrow i hi
  obtain ⟨p1, p2⟩ := hP.1 i h0 hi
  obtain ⟨b1, b2, b3⟩ := hrow (pp i) (by omega)
  refine bl_X4_parentSpot_0 hG t (nI i) S ?_
  rw [nI_clamp (show i < 2 ^ 31 by omega), a2, nI_clamp (show o i < 2 ^ 31 by omega), p2, nI_clamp (show o (pp i) < 2 ^ 31 by omega), b3]
  exact ⟨pk_in i 24 (by omega), pk_in (o i) 24 a1, fun _ => ⟨pk_in _ 24 b1, hQ⟩, fun h => absurd (nI_pos' (by omega)) h⟩
theorem sp_parentSpot0 {Q : ab_Po} {S : ab_S} {t n : Nat} {o pp : Nat → Nat} (hR : Rw S t n o) (hP : Pa S t n o pp) (h0 : 0 < n) (hQ : Q (.inl (some (-1))) S) : Sp_X4_parentSpot [.inr (4, t), .inl (nI 0)] S Q := by
  refine ⟨Nat.le_of_ble_eq_true rfl, fun G hG => ?_⟩
  obtain ⟨h4, hn, hrow⟩ := hR
  obtain ⟨a1, a2, a3⟩ := hrow 0 h0
  refine bl_X4_parentSpot_0 hG t (nI 0) S ?_
  rw [nI_clamp (show 0 < 2 ^ 31 by omega), a2, nI_clamp (show o 0 < 2 ^ 31 by omega), hP.2]
  exact ⟨pk_in 0 24 (by omega), pk_in (o 0) 24 a1, fun h => absurd h (by decide), fun _ => hQ⟩
theorem sp_endOf {Q : ab_Po} {S : ab_S} {t n s : Nat} {o pp : Nat → Nat} (hR : Rw S t n o) (hP : Pa S t n o pp) (hs : s < n) (hQ : ∀ e, En n pp s e → Q (.inl (some (nI e))) S) : Sp_X4_endOf [.inr (4, t), .inl (nI s)] S Q := by
  refine ⟨Nat.le_of_ble_eq_true rfl, fun G hG => ?_⟩
  have hn := hR.2.1
  refine bl_X4_endOf_0 hG t (nI s) S ?_
  rw [nI_1]
  have key : ∀ i, i ≤ n → s < i → (∀ j, s < j → j < i → s ≤ pp j) → G 4 [some (.inr (4, t)), some (.inl (nI s)), some (.inl (nI i))] [] S 0 := by
    refine ind_up _ ?_ ?_
    · intro h1 h2
      refine bl_X4_endOf_4 hG t (nI s) (nI n) S ?_
      rw [hR.1]
      exact pk_le n n (fun _ => hQ n ⟨h1, Nat.le_refl _, h2, Or.inl rfl⟩) (fun h => by omega)
    · intro i hi ih h1 h2
      refine bl_X4_endOf_4 hG t (nI s) (nI i) S ?_
      rw [hR.1]
      refine pk_le n i (fun h => by omega) (fun _ => ?_)
      refine sp_parentSpot hR hP (by omega) hi ?_
      refine bl_X4_endOf_17 hG t (nI s) (nI i) (nI (pp i)) S ?_
      rw [nI_1]
      have hpi := (hP.1 i (by omega) hi).1
      refine pk_le s (pp i) (fun h => ih (by omega) (fun j q1 q2 => ?_)) (fun h => hQ i ⟨h1, by omega, h2, Or.inr h⟩)
      rcases Nat.lt_or_ge j i with q | q
      · exact h2 j q1 q
      · rw [show j = i by omega]; exact h
  exact key (s + 1) (by omega) (by omega) (fun j q1 q2 => by omega)
theorem sp_childCount {Q : ab_Po} {S : ab_S} {t n s : Nat} {o pp : Nat → Nat} (hR : Rw S t n o) (hP : Pa S t n o pp) (hs : s < n) (hQ : Q (.inl (some (nI (ck pp s n)))) S) : Sp_X4_childCount [.inr (4, t), .inl (nI (o s))] S Q := by
  refine ⟨Nat.le_of_ble_eq_true rfl, fun G hG => ?_⟩
  have hn := hR.2.1
  obtain ⟨a1, a2, a3⟩ := hR.2.2 s hs
  refine bl_X4_childCount_0 hG t (nI (o s)) S ⟨pk_in (o s) 24 a1, ?_⟩
  rw [nI_clamp (show o s < 2 ^ 31 by omega), a3, nI_1]
  have key : ∀ i, i ≤ n → s < i → G 11 [some (.inr (4, t)), some (.inl (nI (o s))), some (.inl (nI (ck pp s i))), some (.inl (nI i))] [] S 0 := by
    refine ind_up _ ?_ ?_
    · intro h1
      refine bl_X4_childCount_11 hG t _ _ (nI n) S ?_
      rw [hR.1]
      exact pk_le n n (fun _ => hQ) (fun h => by omega)
    · intro i hi ih h1
      refine bl_X4_childCount_11 hG t _ _ (nI i) S ?_
      obtain ⟨b1, b2, b3⟩ := hR.2.2 i hi
      obtain ⟨p1, p2⟩ := hP.1 i (by omega) hi
      obtain ⟨c1, -, -⟩ := hR.2.2 (pp i) (by omega)
      rw [hR.1, nI_clamp (show i < 2 ^ 31 by omega), b2, nI_clamp (show o i < 2 ^ 31 by omega), p2, nI_1, nI_1]
      refine pk_le n i (fun h => by omega) (fun _ => ⟨pk_in i 24 (by omega), pk_in (o i) 24 b1, ?_⟩)
      refine pk_eq (o (pp i)) (o s) (fun e => ?_) (fun e => ?_)
      · have h := ih (by omega)
        rw [ck_yes (by omega) (hR.inj (by omega) hs e)] at h
        exact h
      · have h := ih (by omega)
        rw [ck_no (fun q => e (by rw [q.2]))] at h
        exact h
  have h := key (s + 1) (by omega) (by omega)
  rw [ck_zero (s + 1) (fun j h1 h2 h3 => by have := (hP.1 j h1 (by omega)).1; omega)] at h
  exact h
/-- the slot for the place k among the children of the node at s: the spot of child k, or the part's end -/
def Slt (n : Nat) (pp : Nat → Nat) (s k i : Nat) : Prop := (s < i ∧ i < n ∧ pp i = s ∧ ck pp s i = k) ∨ (En n pp s i ∧ ck pp s n ≤ k)
theorem sp_slotFor {Q : ab_Po} {S : ab_S} {t n s k : Nat} {o pp : Nat → Nat} (hR : Rw S t n o) (hP : Pa S t n o pp) (hs : s < n) (hk : k < 2 ^ 31) (hQ : ∀ i, Slt n pp s k i → Q (.inl (some (nI i))) S) : Sp_X4_slotFor [.inr (4, t), .inl (nI (o s)), .inl (nI k)] S Q := by
  refine ⟨Nat.le_of_ble_eq_true rfl, fun G hG => ?_⟩
  have hn := hR.2.1
  obtain ⟨a1, a2, a3⟩ := hR.2.2 s hs
  refine bl_X4_slotFor_0 hG t (nI (o s)) (nI k) S ⟨pk_in (o s) 24 a1, ?_⟩
  rw [nI_clamp (show o s < 2 ^ 31 by omega), a3, nI_1]
  have key : ∀ i, i ≤ n → s < i → ck pp s i ≤ k → G 12 [some (.inr (4, t)), some (.inl (nI (o s))), some (.inl (nI k)), some (.inl (nI (ck pp s i))), some (.inl (nI i))] [] S 0 := by
    refine ind_up _ ?_ ?_
    · intro h1 h2
      refine bl_X4_slotFor_12 hG t _ _ _ (nI n) S ?_
      rw [hR.1]
      refine pk_le n n (fun _ => ⟨pk_in (o s) 24 a1, ?_⟩) (fun h => by omega)
      rw [nI_clamp (show o s < 2 ^ 31 by omega), a3]
      refine sp_endOf hR hP hs (fun e he => ?_)
      exact bl_X4_slotFor_64 hG t _ _ _ _ _ S (hQ e (Or.inr ⟨he, h2⟩))
    · intro i hi ih h1 h2
      refine bl_X4_slotFor_12 hG t _ _ _ (nI i) S ?_
      obtain ⟨b1, b2, b3⟩ := hR.2.2 i hi
      obtain ⟨p1, p2⟩ := hP.1 i (by omega) hi
      obtain ⟨c1, -, -⟩ := hR.2.2 (pp i) (by omega)
      have hck := ck_le (pp := pp) (s := s) i
      rw [hR.1, nI_clamp (show i < 2 ^ 31 by omega), b2, nI_clamp (show o i < 2 ^ 31 by omega), p2, nI_1, nI_1]
      refine pk_le n i (fun h => by omega) (fun _ => ⟨pk_in i 24 (by omega), pk_in (o i) 24 b1, ?_⟩)
      refine pk_eq (o (pp i)) (o s) (fun e => ?_) (fun e => ?_)
      · have e2 := hR.inj (by omega) hs e
        refine pk_eq (ck pp s i) k (fun q => hQ i (Or.inl ⟨h1, hi, e2, q⟩)) (fun q => ?_)
        have h := ih (by omega)
        rw [ck_yes (by omega) e2] at h
        exact h (by omega)
      · have h := ih (by omega)
        rw [ck_no (fun q => e (by rw [q.2]))] at h
        exact h h2
  have h0 := ck_zero (pp := pp) (s := s) (s + 1) (fun j h1 h2 h3 => by have := (hP.1 j h1 (by omega)).1; omega)
  have h := key (s + 1) (by omega) (by omega) (by omega)
  rw [h0] at h
  exact h
