/-! Putting parts into the row, and taking them out. -/
theorem sr_at (S : ab_S) (κ i : Nat) (f : Nat → Int32) : ab_sr S κ i f κ i = f := ab_sr_self
theorem sr_k {S : ab_S} {κ i a b : Nat} {f : Nat → Int32} (h : a ≠ κ) : ab_sr S κ i f a b = S a b := ab_sr_ne (fun e => h (Prod.mk.inj e).1)
theorem sr_i {S : ab_S} {κ i a b : Nat} {f : Nat → Int32} (h : b ≠ i) : ab_sr S κ i f a b = S a b := ab_sr_ne (fun e => h (Prod.mk.inj e).2)
theorem sr_o {S : ab_S} {κ i a b : Nat} {f : Nat → Int32} (h : a ≠ κ ∨ b ≠ i) : ab_sr S κ i f a b = S a b := h.elim sr_k sr_i
theorem su_at (S : ab_S) (κ i j : Nat) (v : Int32) : ab_su S κ i j v κ i j = v := by unfold ab_su; rw [sr_at]; simp [upd]
theorem su_j {S : ab_S} {κ i j c : Nat} {v : Int32} (h : c ≠ j) : ab_su S κ i j v κ i c = S κ i c := by unfold ab_su; rw [sr_at]; simp [upd, h]
theorem su_o {S : ab_S} {κ i j a b : Nat} {v : Int32} (h : a ≠ κ ∨ b ≠ i) : ab_su S κ i j v a b = S a b := by unfold ab_su; exact sr_o h
theorem sp_renumberFrom {Q : ab_Po} {S : ab_S} {t n st : Nat} {o : Nat → Nat} (h4 : S 4 t 4 = nI n) (hn : n ≤ 24) (hst : st ≤ n) (ho : ∀ i, i < n → o i < 24 ∧ S 5 t i = nI (o i)) (hinj : ∀ i j, i < n → j < n → o i = o j → i = j)
    (hQ : ∀ S', (∀ a b, (a ≠ 6 ∨ b ≠ t) → S' a b = S a b) → (∀ i, st ≤ i → i < n → S' 6 t (o i) = nI i) → (∀ v, (∀ i, st ≤ i → i < n → o i ≠ v) → S' 6 t v = S 6 t v) → Q (.inl none) S') : Sp_X4_renumberFrom [.inr (4, t), .inl (nI st)] S Q := by
  refine ⟨Nat.le_of_ble_eq_true rfl, fun G hG => ?_⟩
  refine bl_X4_renumberFrom_0 hG t (nI st) S ?_
  have key : ∀ i, i ≤ n → ∀ S1 : ab_S, st ≤ i → (∀ a b, (a ≠ 6 ∨ b ≠ t) → S1 a b = S a b) → (∀ j, st ≤ j → j < i → S1 6 t (o j) = nI j) → (∀ v, (∀ j, st ≤ j → j < i → o j ≠ v) → S1 6 t v = S 6 t v) → G 2 [some (.inr (4, t)), some (.inl (nI st)), some (.inl (nI i))] [] S1 0 := by
    refine ind_up _ ?_ ?_
    · intro S1 h1 f1 f2 f3
      refine bl_X4_renumberFrom_2 hG t (nI st) (nI n) S1 ?_
      rw [f1 4 t (Or.inl (by decide)), h4]
      exact pk_le n n (fun _ => hQ S1 f1 f2 f3) (fun h => by omega)
    · intro i hi ih S1 h1 f1 f2 f3
      refine bl_X4_renumberFrom_2 hG t (nI st) (nI i) S1 ?_
      obtain ⟨b1, b2⟩ := ho i hi
      rw [f1 4 t (Or.inl (by decide)), h4, f1 5 t (Or.inl (by decide)), nI_clamp (show i < 2 ^ 31 by omega), b2, nI_clamp (show o i < 2 ^ 31 by omega), nI_1]
      refine pk_le n i (fun h => by omega) (fun _ => ⟨pk_in i 24 (by omega), pk_in (o i) 24 b1, ?_⟩)
      intro S2 e2
      subst e2
      refine ih _ (by omega) (fun a b q => ?_) (fun j q1 q2 => ?_) (fun v q => ?_)
      · rw [su_o q]; exact f1 a b q
      · by_cases e : j = i
        · subst e; exact su_at _ _ _ _ _
        · rw [su_j (fun q => e (hinj j i (by omega) hi q))]
          exact f2 j q1 (by omega)
      · rw [su_j (fun e => q i h1 (by omega) e.symm)]
        exact f3 v (fun j q1 q2 => q j q1 (by omega))
  exact key st hst S (Nat.le_refl _) (fun _ _ _ => rfl) (fun j q1 q2 => by omega) (fun _ _ => rfl)
/-- the row o with the len nodes of c put in at a slot -/
def insO (o c : Nat → Nat) (sl len : Nat) : Nat → Nat := fun i => if i < sl then o i else if i < sl + len then c (i - sl) else o (i - len)
theorem sp_putCarried {Q : ab_Po} {S : ab_S} {t n sl len : Nat} {o c : Nat → Nat} (hR : Rw S t n o) (hsl : sl ≤ n) (hlen : n + len ≤ 24) (hc : ∀ i, i < len → c i < 24 ∧ S 9 t i = nI (c i)) (hinj : ∀ i j, i < n + len → j < n + len → insO o c sl len i = insO o c sl len j → i = j)
    (hQ : ∀ S', (∀ a b, ((a ≠ 4 ∧ a ≠ 5 ∧ a ≠ 6) ∨ b ≠ t) → S' a b = S a b) → Rw S' t (n + len) (insO o c sl len) → Q (.inl none) S') : Sp_X4_putCarried [.inr (4, t), .inl (nI sl), .inl (nI len)] S Q := by
  refine ⟨Nat.le_of_ble_eq_true rfl, fun G hG => ?_⟩
  obtain ⟨h4, hn, hrow⟩ := hR
  refine bl_X4_putCarried_0 hG t (nI sl) (nI len) S ?_
  rw [h4, nI_add, pk_sub hsl, nI_clamp (show sl < 2 ^ 31 by omega), nI_clamp (show sl + len < 2 ^ 31 by omega), nI_clamp (show n - sl < 2 ^ 31 by omega), nI_clamp (show len < 2 ^ 31 by omega), sb_cl0]
  refine ⟨nI_pos (by omega), nI_pos (by omega), nI_pos (by omega), by omega, by omega, ?_⟩
  intro S1 e1
  refine ⟨by decide, nI_pos (by omega), nI_pos (by omega), by omega, by omega, ?_⟩
  intro S2 e2 S3 e3
  have s9 : S1 9 t = S 9 t := by rw [e1]; exact sr_k (by decide)
  have s5 : S1 5 t = va_cpy (S 5 t) (S 5 t) sl (sl + len) (n - sl) := by rw [e1]; exact sr_at _ _ _ _
  have f2 : ∀ a b, (a ≠ 5 ∨ b ≠ t) → S2 a b = S a b := fun a b q => by rw [e2, sr_o q, e1, sr_o q]
  have s52 : S2 5 t = va_cpy (S 9 t) (va_cpy (S 5 t) (S 5 t) sl (sl + len) (n - sl)) 0 sl len := by rw [e2, sr_at, s9, s5]
  have f3 : ∀ a b, ((a ≠ 4 ∧ a ≠ 5) ∨ b ≠ t) → S3 a b = S a b := fun a b q => by
    rw [e3, su_o (by omega)]; exact f2 a b (by omega)
  have s53 : S3 5 t = S2 5 t := by rw [e3]; exact su_o (Or.inl (by decide))
  have s43 : S3 4 t 4 = nI (n + len) := by rw [e3, su_at, f2 4 t (Or.inl (by decide)), h4, nI_add]
  have hrow3 : ∀ i, i < n + len → insO o c sl len i < 24 ∧ S3 5 t i = nI (insO o c sl len i) := by
    intro i hi
    rw [s53, s52]
    unfold insO va_cpy
    by_cases q1 : i < sl
    · rw [if_pos q1, if_neg (by omega), if_neg (by omega)]
      exact ⟨(hrow i (by omega)).1, (hrow i (by omega)).2.1⟩
    · rw [if_neg q1]
      by_cases q2 : i < sl + len
      · rw [if_pos q2, if_pos (by omega), Nat.zero_add]
        exact hc (i - sl) (by omega)
      · rw [if_neg q2, if_neg (by omega), if_pos (by omega), show sl + (i - (sl + len)) = i - len by omega]
        exact ⟨(hrow (i - len) (by omega)).1, (hrow (i - len) (by omega)).2.1⟩
  refine sp_renumberFrom s43 hlen (by omega) hrow3 hinj (fun S' g1 g2 g3 => ?_)
  refine bl_X4_putCarried_50 hG t _ _ S' (hQ S' (fun a b q => ?_) ⟨?_, hlen, fun i hi => ⟨(hrow3 i hi).1, ?_, ?_⟩⟩)
  · rw [g1 a b (by omega)]; exact f3 a b (by omega)
  · rw [g1 4 t (Or.inl (by decide))]; exact s43
  · rw [g1 5 t (Or.inl (by decide))]; exact (hrow3 i hi).2
  · by_cases q : sl ≤ i
    · exact g2 i q hi
    · have e : insO o c sl len i = o i := by unfold insO; rw [if_pos (by omega)]
      rw [g3 _ (fun j q1 q2 e2 => by have := hinj j i q2 hi e2; omega), f3 6 t (Or.inl ⟨by decide, by decide⟩), e]
      exact (hrow i (by omega)).2.2
theorem sp_putInto {Q : ab_Po} {S : ab_S} {t n sl v : Nat} {o : Nat → Nat} (hR : Rw S t n o) (hsl : sl ≤ n) (hlen : n < 24) (hv : v < 24) (hnew : ∀ i, i < n → o i ≠ v)
    (hQ : ∀ S', (∀ a b, ((a ≠ 4 ∧ a ≠ 5 ∧ a ≠ 6 ∧ a ≠ 9) ∨ b ≠ t) → S' a b = S a b) → Rw S' t (n + 1) (insO o (fun _ => v) sl 1) → Q (.inl none) S') : Sp_X4_putInto [.inr (4, t), .inl (nI sl), .inl (nI v)] S Q := by
  refine ⟨Nat.le_of_ble_eq_true rfl, fun G hG => ?_⟩
  refine bl_X4_putInto_0 hG t (nI sl) (nI v) S ⟨pk_in 0 24 (by omega), ?_⟩
  intro S1 e1
  have f1 : ∀ a b, (a ≠ 9 ∨ b ≠ t) → S1 a b = S a b := fun a b q => by rw [e1]; exact su_o q
  have hR1 : Rw S1 t n o := ⟨by rw [f1 4 t (Or.inl (by decide))]; exact hR.1, hR.2.1, fun i hi => by rw [f1 5 t (Or.inl (by decide)), f1 6 t (Or.inl (by decide))]; exact hR.2.2 i hi⟩
  have hc : ∀ i, i < 1 → (fun _ : Nat => v) i < 24 ∧ S1 9 t i = nI ((fun _ : Nat => v) i) := fun i hi => ⟨hv, by
    have e : i = 0 := by omega
    subst e
    rw [e1, sb_cl0]; exact su_at _ _ _ _ _⟩
  refine sp_putCarried (len := 1) hR1 hsl (by omega) hc (fun i j hi hj e => ?_) (fun S' g1 g2 => ?_)
  · unfold insO at e
    split at e <;> split at e <;> (try split at e) <;> (try split at e)
    all_goals first
      | omega
      | exact hR.inj (by omega) (by omega) e
      | exact absurd e (hnew _ (by omega))
      | exact absurd e.symm (hnew _ (by omega))
      | (have := hR.inj (by omega) (by omega) e; omega)
  · exact bl_X4_putInto_13 hG t _ _ S' (hQ S' (fun a b q => by rw [g1 a b (by omega)]; exact f1 a b (by omega)) g2)
/-- the row o without the len nodes from a spot on -/
def delO (o : Nat → Nat) (s len : Nat) : Nat → Nat := fun i => if i < s then o i else o (i + len)
theorem sp_takeOut {Q : ab_Po} {S : ab_S} {t n s : Nat} {o pp : Nat → Nat} (hR : Rw S t n o) (hP : Pa S t n o pp) (hs : s < n)
    (hQ : ∀ S' e, En n pp s e → (∀ a b, ((a ≠ 4 ∧ a ≠ 5 ∧ a ≠ 6 ∧ a ≠ 9) ∨ b ≠ t) → S' a b = S a b) → (∀ i, i < e - s → S' 9 t i = nI (o (s + i))) → Rw S' t (n - (e - s)) (delO o s (e - s)) → Q (.inl (some (nI (e - s)))) S') : Sp_X4_takeOut [.inr (4, t), .inl (nI (o s))] S Q := by
  refine ⟨Nat.le_of_ble_eq_true rfl, fun G hG => ?_⟩
  obtain ⟨h4, hn, hrow⟩ := id hR
  obtain ⟨a1, a2, a3⟩ := hrow s hs
  refine bl_X4_takeOut_0 hG t (nI (o s)) S ⟨pk_in (o s) 24 a1, ?_⟩
  rw [nI_clamp (show o s < 2 ^ 31 by omega), a3]
  refine sp_endOf hR hP hs (fun e he => ?_)
  obtain ⟨he1, he2, -, -⟩ := id he
  refine bl_X4_takeOut_12 hG t (nI (o s)) (nI s) (nI e) S ?_
  rw [pk_sub (Nat.le_of_lt he1), nI_clamp (show s < 2 ^ 31 by omega), nI_clamp (show e - s < 2 ^ 31 by omega), nI_clamp (show e < 2 ^ 31 by omega), sb_cl0]
  refine ⟨nI_pos (by omega), by decide, nI_pos (by omega), by omega, by omega, ?_⟩
  intro S1 e1
  have f1 : ∀ a b, (a ≠ 9 ∨ b ≠ t) → S1 a b = S a b := fun a b q => by rw [e1]; exact sr_o q
  have s9 : S1 9 t = va_cpy (S 5 t) (S 9 t) s 0 (e - s) := by rw [e1]; exact sr_at _ _ _ _
  rw [f1 4 t (Or.inl (by decide)), h4, pk_sub he2, nI_clamp (show n - e < 2 ^ 31 by omega)]
  refine ⟨nI_pos (by omega), nI_pos (by omega), nI_pos (by omega), by omega, by omega, ?_⟩
  intro S2 e2 S3 e3
  have f2 : ∀ a b, (a ≠ 5 ∨ b ≠ t) → S2 a b = S1 a b := fun a b q => by rw [e2]; exact sr_o q
  have s5 : S2 5 t = va_cpy (S 5 t) (S 5 t) e s (n - e) := by rw [e2, sr_at, f1 5 t (Or.inl (by decide))]
  have f3 : ∀ a b, (a ≠ 4 ∨ b ≠ t) → S3 a b = S2 a b := fun a b q => by rw [e3]; exact su_o q
  have s43 : S3 4 t 4 = nI (n - (e - s)) := by rw [e3, su_at, f2 4 t (Or.inl (by decide)), f1 4 t (Or.inl (by decide)), h4, pk_sub (by omega)]
  have s53 : S3 5 t = va_cpy (S 5 t) (S 5 t) e s (n - e) := by rw [f3 5 t (Or.inl (by decide)), s5]
  have s93 : S3 9 t = va_cpy (S 5 t) (S 9 t) s 0 (e - s) := by rw [f3 9 t (Or.inl (by decide)), f2 9 t (Or.inl (by decide)), s9]
  have hrow3 : ∀ i, i < n - (e - s) → delO o s (e - s) i < 24 ∧ S3 5 t i = nI (delO o s (e - s) i) := by
    intro i hi
    rw [s53]
    unfold delO va_cpy
    by_cases q1 : i < s
    · rw [if_pos q1, if_neg (by omega)]
      exact ⟨(hrow i (by omega)).1, (hrow i (by omega)).2.1⟩
    · rw [if_neg q1, if_pos (by omega), show e + (i - s) = i + (e - s) by omega]
      exact ⟨(hrow _ (by omega)).1, (hrow _ (by omega)).2.1⟩
  have hinj : ∀ i j, i < n - (e - s) → j < n - (e - s) → delO o s (e - s) i = delO o s (e - s) j → i = j := by
    intro i j hi hj q
    unfold delO at q
    split at q <;> split at q <;> (have := hR.inj (by omega) (by omega) q; omega)
  refine sp_renumberFrom s43 (by omega) (by omega) hrow3 hinj (fun S' g1 g2 g3 => ?_)
  have q := hQ S' e he (fun a b q => by rw [g1 a b (by omega), f3 a b (by omega), f2 a b (by omega), f1 a b (by omega)]) (fun i hi => by
      rw [g1 9 t (Or.inl (by decide)), s93]
      unfold va_cpy
      rw [if_pos (by omega), Nat.sub_zero]
      exact (hrow _ (by omega)).2.1) ⟨by rw [g1 4 t (Or.inl (by decide))]; exact s43, by omega, fun i hi => ⟨(hrow3 i hi).1, by rw [g1 5 t (Or.inl (by decide))]; exact (hrow3 i hi).2, ?_⟩⟩
  · refine bl_X4_takeOut_65 hG t _ (nI s) (nI e) S' ?_
    rw [pk_sub (Nat.le_of_lt he1)]
    exact q
  · by_cases q : s ≤ i
    · exact g2 i q hi
    · have e' : delO o s (e - s) i = o i := by unfold delO; rw [if_pos (by omega)]
      rw [g3 _ (fun j q1 q2 e2 => by have := hinj j i q2 hi e2; omega), f3 6 t (Or.inl (by decide)), f2 6 t (Or.inl (by decide)), f1 6 t (Or.inl (by decide)), e']
      exact (hrow i (by omega)).2.2
