/-! A tree of the class as a shape with labels. -/
def Tr (S : ab_S) (t n : Nat) (o pp : Nat → Nat) (lb : Nat → Int32) : Prop := S 4 t 4 = nI n ∧ (∀ i, i < n → S 5 t i = nI (o i) ∧ S 6 t (o i) = nI i ∧ S 8 t (o i) = lb (o i)) ∧ S 7 t 0 = -1 ∧ ∀ i, 0 < i → i < n → S 7 t (o i) = nI (o (pp i))
def Ab (S : ab_S) (t n : Nat) (o : Nat → Nat) : Prop := ∀ v, v < 24 → (∀ i, i < n → o i ≠ v) → S 7 t v = -2 ∧ S 8 t v = -2
theorem Tr.rw {S : ab_S} {t n : Nat} {o pp : Nat → Nat} {lb : Nat → Int32} (hS : Sh n o pp) (h : Tr S t n o pp lb) : Rw S t n o := ⟨h.1, hS.2.1, fun i hi => ⟨hS.2.2.2.1 i hi, (h.2.1 i hi).1, (h.2.1 i hi).2.1⟩⟩
theorem Tr.pa {S : ab_S} {t n : Nat} {o pp : Nat → Nat} {lb : Nat → Int32} (hS : Sh n o pp) (h : Tr S t n o pp lb) : Pa S t n o pp := ⟨fun i h0 hi => ⟨hS.2.2.2.2.2.1 i h0 hi, h.2.2.2 i h0 hi⟩, by rw [hS.2.2.1]; exact h.2.2.1⟩
theorem insO_lo {o c : Nat → Nat} {sl len i : Nat} (h : i < sl) : insO o c sl len i = o i := if_pos h
theorem insO_in {o c : Nat → Nat} {sl len i : Nat} (h : sl ≤ i) (h2 : i < sl + len) : insO o c sl len i = c (i - sl) := by unfold insO; rw [if_neg (by omega), if_pos h2]
theorem insO_hi {o c : Nat → Nat} {sl len i : Nat} (h : sl + len ≤ i) : insO o c sl len i = o (i - len) := by unfold insO; rw [if_neg (by omega), if_neg (by omega)]
theorem insO_up {o c : Nat → Nat} {sl len i : Nat} : insO o c sl len (upP sl len i) = o i := by
  unfold upP
  split
  · exact insO_lo (by assumption)
  · rw [insO_hi (by omega)]; congr 1; omega
theorem insO_inj {n : Nat} {o c : Nat → Nat} {sl len : Nat} (hsl : sl ≤ n) (ho : ∀ i j, i < n → j < n → o i = o j → i = j) (hc : ∀ i j, i < len → j < len → c i = c j → i = j) (hoc : ∀ i j, i < n → j < len → o i ≠ c j) : ∀ i j, i < n + len → j < n + len → insO o c sl len i = insO o c sl len j → i = j := by
  intro i j hi hj e
  unfold insO at e
  split at e <;> split at e <;> (try split at e) <;> (try split at e)
  all_goals first
    | omega
    | exact absurd e (hoc _ _ (by omega) (by omega))
    | exact absurd e.symm (hoc _ _ (by omega) (by omega))
    | (have := ho _ _ (by omega) (by omega) e; omega)
    | (have := hc _ _ (by omega) (by omega) e; omega)
theorem Sh_ins {n : Nat} {o pp c cp : Nat → Nat} {sl len s : Nat} (hS : Sh n o pp) (hc : Lp len cp) (hl : 0 < len) (hlen : n + len ≤ 24) (hv : Slv n pp s sl) (hc24 : ∀ i, i < len → c i < 24) (hci : ∀ i j, i < len → j < len → c i = c j → i = j) (hoc : ∀ i j, i < n → j < len → o i ≠ c j) : Sh (n + len) (insO o c sl len) (insP pp cp sl len s) := by
  obtain ⟨h1, h2, h3, h4, h5, h6⟩ := hS
  have hsl := hv.2.1
  have h0 := hv.1
  refine ⟨by omega, hlen, by rw [insO_lo (by omega)]; exact h3, fun i hi => ?_, insO_inj hsl h5 hci hoc, insP_Lp h6 hc hl hv⟩
  unfold insO
  split
  · exact h4 i (by omega)
  · split
    · exact hc24 _ (by omega)
    · exact h4 _ (by omega)
theorem Tr_ins {S : ab_S} {t n : Nat} {o pp c cp : Nat → Nat} {sl len s : Nat} {lb : Nat → Int32} (hS : Sh n o pp) (hc : Lp len cp) (hl : 0 < len) (hv : Slv n pp s sl) (hR : Rw S t (n + len) (insO o c sl len)) (h0 : S 7 t 0 = -1) (hp : ∀ i, 0 < i → i < n → S 7 t (o i) = nI (o (pp i))) (hh : S 7 t (c 0) = nI (o s)) (hcp : ∀ i, 0 < i → i < len → S 7 t (c i) = nI (c (cp i)))
    (hlo : ∀ i, i < n → S 8 t (o i) = lb (o i)) (hlc : ∀ i, i < len → S 8 t (c i) = lb (c i)) : Tr S t (n + len) (insO o c sl len) (insP pp cp sl len s) lb := by
  obtain ⟨r1, r2, r3⟩ := hR
  obtain ⟨v1, v2, v3, v4⟩ := hv
  refine ⟨r1, fun i hi => ⟨(r3 i hi).2.1, (r3 i hi).2.2, ?_⟩, h0, fun i i0 hi => ?_⟩
  · by_cases q1 : i < sl
    · rw [insO_lo q1]; exact hlo i (by omega)
    · by_cases q2 : i < sl + len
      · rw [insO_in (by omega) q2]; exact hlc _ (by omega)
      · rw [insO_hi (by omega)]; exact hlo _ (by omega)
  · by_cases q1 : i < sl
    · have := hS.2.2.2.2.2.1 i i0 (by omega)
      rw [insO_lo q1, insP_lo q1, insO_lo (by omega)]; exact hp i i0 (by omega)
    · by_cases q2 : i = sl
      · subst q2
        rw [insO_in (Nat.le_refl _) (by omega), insP_hd, insO_lo v1, Nat.sub_self]; exact hh
      · by_cases q3 : i < sl + len
        · have := hc.1 (i - sl) (by omega) (by omega)
          rw [insO_in (by omega) q3, insP_in (by omega) q3, insO_in (by omega) (by omega), show sl + cp (i - sl) - sl = cp (i - sl) by omega]
          exact hcp _ (by omega) (by omega)
        · rw [insO_hi (by omega), insP_hi hl (by omega), insO_up]
          exact hp _ (by omega) (by omega)
theorem delO_dn {o : Nat → Nat} {s len q : Nat} (h : q < s ∨ s + len ≤ q) : delO o s len (dnP s len q) = o q := by
  unfold dnP delO
  by_cases c : q < s
  · rw [if_pos c, if_pos c]
  · rw [if_neg c, if_neg (by omega)]; congr 1; omega
theorem Sh_del {n : Nat} {o pp : Nat → Nat} {s e : Nat} (hS : Sh n o pp) (h0 : 0 < s) (h : En n pp s e) : Sh (n - (e - s)) (delO o s (e - s)) (delP pp s (e - s)) := by
  obtain ⟨h1, h2, h3, h4, h5, h6⟩ := hS
  have a1 := h.1
  have a2 := h.2.1
  refine ⟨by omega, by omega, by unfold delO; rw [if_pos h0]; exact h3, fun i hi => ?_, fun i j hi hj q => ?_, delP_Lp h6 h0 h⟩
  · unfold delO
    split
    · exact h4 i (by omega)
    · exact h4 _ (by omega)
  · unfold delO at q
    split at q <;> split at q <;> (have := h5 _ _ (by omega) (by omega) q; omega)
theorem Tr_del {S : ab_S} {t n : Nat} {o pp : Nat → Nat} {s e : Nat} {lb : Nat → Int32} (hS : Sh n o pp) (hs0 : 0 < s) (h : En n pp s e) (hR : Rw S t (n - (e - s)) (delO o s (e - s))) (h0 : S 7 t 0 = -1) (hp : ∀ i, 0 < i → i < n → (i < s ∨ e ≤ i) → S 7 t (o i) = nI (o (pp i))) (hlo : ∀ i, i < n → (i < s ∨ e ≤ i) → S 8 t (o i) = lb (o i)) : Tr S t (n - (e - s)) (delO o s (e - s)) (delP pp s (e - s)) lb := by
  obtain ⟨r1, r2, r3⟩ := hR
  have a1 := h.1
  have a2 := h.2.1
  refine ⟨r1, fun i hi => ⟨(r3 i hi).2.1, (r3 i hi).2.2, ?_⟩, h0, fun i i0 hi => ?_⟩
  · unfold delO
    split
    · exact hlo i (by omega) (by omega)
    · exact hlo _ (by omega) (by omega)
  · by_cases q : i < s
    · have := hS.2.2.2.2.2.1 i i0 (by omega)
      rw [delP_lo q]
      unfold delO
      rw [if_pos q, if_pos (by omega)]
      exact hp i i0 (by omega) (by omega)
    · have ho := En_out hS.2.2.2.2.2 h (i := i + (e - s)) (by omega) (by omega)
      rw [delP_hi (by omega), delO_dn (by omega)]
      unfold delO
      rw [if_neg q]
      exact hp _ (by omega) (by omega) (by omega)
/-! what a method leaves alone: all but the tree t -/
def Off (S S' : ab_S) (t : Nat) : Prop := ∀ a b, (a < 4 ∨ 9 < a ∨ b ≠ t) → S' a b = S a b
theorem Off.rf {S : ab_S} {t : Nat} : Off S S t := fun _ _ _ => rfl
theorem Off.tr {S S1 S2 : ab_S} {t : Nat} (h : Off S S1 t) (h2 : Off S1 S2 t) : Off S S2 t := fun a b q => (h2 a b q).trans (h a b q)
theorem sp_attach {Q : ab_Po} {S : ab_S} {t n s k v : Nat} {o pp : Nat → Nat} {lb : Nat → Int32} {x : Int32} (hS : Sh n o pp) (hT : Tr S t n o pp lb) (hA : Ab S t n o) (hs : s < n) (hk : k ≤ ck pp s n) (hv : v < 24) (hnew : ∀ i, i < n → o i ≠ v)
    (hQ : ∀ S' sl, Slt n pp s k sl → Off S S' t → Sh (n + 1) (insO o (fun _ => v) sl 1) (insP pp (fun _ => 0) sl 1 s) → Tr S' t (n + 1) (insO o (fun _ => v) sl 1) (insP pp (fun _ => 0) sl 1 s) (upd lb v x) → Ab S' t (n + 1) (insO o (fun _ => v) sl 1) → Q (.inl none) S') : Sp_X4_attach [.inr (4, t), .inl (nI v), .inl x, .inl (nI (o s)), .inl (nI k)] S Q := by
  refine ⟨Nat.le_of_ble_eq_true rfl, fun G hG => ?_⟩
  have hL := hS.2.2.2.2.2
  have hn24 : n < 24 := by
    rcases Nat.lt_or_ge n 24 with q | q
    · exact q
    · exfalso
      have hn := hS.2.1
      obtain ⟨i, h1, h2⟩ := fb_onto (n := 24) (f := o) (fun i hi => hS.2.2.2.1 i (by omega)) (fun i j h1 h2 e => by have := hS.2.2.2.2.1 i j (by omega) (by omega) e; omega) hv
      exact hnew i (by omega) h2
  have hck := ck_le (pp := pp) (s := s) n
  refine bl_X4_attach_0 hG t (nI v) x _ _ S ⟨pk_in v 24 hv, ?_⟩
  rw [nI_clamp (show v < 2 ^ 31 by omega)]
  intro S1 e1
  refine ⟨pk_in v 24 hv, ?_⟩
  intro S2 e2
  have f2 : ∀ a b, ((a ≠ 7 ∧ a ≠ 8) ∨ b ≠ t) → S2 a b = S a b := fun a b q => by rw [e2, su_o (by omega), e1, su_o (by omega)]
  have p2 : ∀ u, u ≠ v → S2 7 t u = S 7 t u := fun u q => by rw [e2, su_o (Or.inl (by decide)), e1, su_j q]
  have l2 : ∀ u, u ≠ v → S2 8 t u = S 8 t u := fun u q => by rw [e2, su_j q, e1, su_o (Or.inl (by decide))]
  have pv : S2 7 t v = nI (o s) := by rw [e2, su_o (Or.inl (by decide)), e1, su_at]
  have lv : S2 8 t v = x := by rw [e2, su_at]
  have hR2 : Rw S2 t n o := ⟨by rw [f2 4 t (Or.inl ⟨by decide, by decide⟩)]; exact hT.1, hS.2.1, fun i hi => by rw [f2 5 t (Or.inl ⟨by decide, by decide⟩), f2 6 t (Or.inl ⟨by decide, by decide⟩)]; exact (hT.rw hS).2.2 i hi⟩
  have hP2 : Pa S2 t n o pp := ⟨fun i h0 hi => ⟨hL.1 i h0 hi, by rw [p2 _ (hnew i hi)]; exact hT.2.2.2 i h0 hi⟩, by rw [p2 _ (hnew 0 hS.1)]; exact (hT.pa hS).2⟩
  refine sp_slotFor hR2 hP2 hs (by omega) (fun sl hsl => ?_)
  have hslv := hsl.slv hL
  refine bl_X4_attach_22 hG t _ _ _ _ (nI sl) t S2 ?_
  refine sp_putInto hR2 hslv.2.1 hn24 hv hnew (fun S' g1 g2 => ?_)
  have hc1 : Lp 1 (fun _ => 0) := ⟨fun i h0 hi => by omega, fun i j h0 h1 h2 => by omega⟩
  have z0 : (0 : Nat) ≠ v := by have := hnew 0 hS.1; rwa [hS.2.2.1] at this
  refine bl_X4_attach_26 hG t _ _ _ _ S' (hQ S' sl hsl (fun a b q => by rw [g1 a b (by omega)]; exact f2 a b (by omega)) ?_ ?_ ?_)
  · exact Sh_ins hS hc1 (by omega) (by omega) hslv (fun i _ => hv) (fun i j h1 h2 _ => by omega) (fun i j h1 h2 => hnew i h1)
  · refine Tr_ins hS hc1 (by omega) hslv g2 ?_ (fun i h0 hi => ?_) ?_ (fun i h0 hi => by omega) (fun i hi => ?_) (fun i hi => ?_)
    · rw [g1 7 t (Or.inl ⟨by decide, by decide, by decide, by decide⟩), p2 0 z0]; exact hT.2.2.1
    · rw [g1 7 t (Or.inl ⟨by decide, by decide, by decide, by decide⟩), p2 _ (hnew i hi)]; exact hT.2.2.2 i h0 hi
    · rw [g1 7 t (Or.inl ⟨by decide, by decide, by decide, by decide⟩)]; exact pv
    · rw [g1 8 t (Or.inl ⟨by decide, by decide, by decide, by decide⟩), l2 _ (hnew i hi), pk_un (hnew i hi)]; exact (hT.2.1 i hi).2.2
    · rw [g1 8 t (Or.inl ⟨by decide, by decide, by decide, by decide⟩), pk_us]; exact lv
  · intro u hu hn
    have uv : u ≠ v := fun e => hn sl (by have := hslv.2.1; omega) (by rw [insO_in (Nat.le_refl _) (by omega)]; exact e.symm)
    have hno : ∀ i, i < n → o i ≠ u := fun i hi e => hn (upP sl 1 i) (by unfold upP; split <;> omega) (by rw [insO_up]; exact e)
    rw [g1 7 t (Or.inl ⟨by decide, by decide, by decide, by decide⟩), g1 8 t (Or.inl ⟨by decide, by decide, by decide, by decide⟩), p2 u uv, l2 u uv]
    exact hA u hu hno
theorem sp_prune {Q : ab_Po} {S : ab_S} {t n s : Nat} {o pp : Nat → Nat} {lb : Nat → Int32} (hS : Sh n o pp) (hT : Tr S t n o pp lb) (hA : Ab S t n o) (hs : s < n) (hs0 : 0 < s)
    (hQ : ∀ S' e, En n pp s e → Off S S' t → Sh (n - (e - s)) (delO o s (e - s)) (delP pp s (e - s)) → Tr S' t (n - (e - s)) (delO o s (e - s)) (delP pp s (e - s)) lb → Ab S' t (n - (e - s)) (delO o s (e - s)) → Q (.inl (some (nI (e - s)))) S') : Sp_X4_prune [.inr (4, t), .inl (nI (o s))] S Q := by
  refine ⟨Nat.le_of_ble_eq_true rfl, fun G hG => ?_⟩
  have hn := hS.2.1
  refine bl_X4_prune_0 hG t _ S ?_
  refine sp_takeOut (hT.rw hS) (hT.pa hS) hs (fun S1 e he g1 g2 g3 => ?_)
  obtain ⟨he1, he2, -, -⟩ := id he
  refine bl_X4_prune_5 hG t _ (nI (e - s)) S1 ?_
  have h9 : ∀ a b, ((a ≠ 4 ∧ a ≠ 5 ∧ a ≠ 6 ∧ a ≠ 9) ∨ b ≠ t) → S1 a b = S a b := g1
  have inj := hS.2.2.2.2.1
  have key : ∀ i, i ≤ e - s → ∀ S2 : ab_S, (∀ a b, ((a ≠ 7 ∧ a ≠ 8) ∨ b ≠ t) → S2 a b = S1 a b) → (∀ j, j < i → S2 7 t (o (s + j)) = -2 ∧ S2 8 t (o (s + j)) = -2) → (∀ v, (∀ j, j < i → o (s + j) ≠ v) → S2 7 t v = S1 7 t v ∧ S2 8 t v = S1 8 t v) → G 8 [some (.inr (4, t)), some (.inl (nI (o s))), some (.inl (nI (e - s))), some (.inl (nI i))] [] S2 0 := by
    refine ind_up _ ?_ ?_
    · intro S2 k1 k2 k3
      refine bl_X4_prune_8 hG t _ (nI (e - s)) (nI (e - s)) S2 ?_
      refine pk_le (e - s) (e - s) (fun _ => ?_) (fun h => by omega)
      have fr : ∀ i, i < n → (i < s ∨ e ≤ i) → S2 7 t (o i) = S 7 t (o i) ∧ S2 8 t (o i) = S 8 t (o i) := fun i hi hio => by
        have := k3 (o i) (fun j hj q => by have := inj _ _ (by omega) hi q; omega)
        rw [h9 7 t (Or.inl ⟨by decide, by decide, by decide, by decide⟩), h9 8 t (Or.inl ⟨by decide, by decide, by decide, by decide⟩)] at this
        exact this
      have h0 : S2 7 t 0 = -1 := by have := (fr 0 hS.1 (Or.inl hs0)).1; rw [hS.2.2.1] at this; rw [this]; exact hT.2.2.1
      refine hQ S2 e he (fun a b q => by rw [k1 a b (by omega)]; exact h9 a b (by omega)) (Sh_del hS hs0 he) ?_ ?_
      · refine Tr_del hS hs0 he ⟨by rw [k1 4 t (Or.inl ⟨by decide, by decide⟩)]; exact g3.1, g3.2.1, fun i hi => by rw [k1 5 t (Or.inl ⟨by decide, by decide⟩), k1 6 t (Or.inl ⟨by decide, by decide⟩)]; exact g3.2.2 i hi⟩ h0 (fun i i0 hi hio => ?_) (fun i hi hio => ?_)
        · rw [(fr i hi hio).1]; exact hT.2.2.2 i i0 hi
        · rw [(fr i hi hio).2]; exact (hT.2.1 i hi).2.2
      · intro u hu hno
        by_cases q : ∃ j, j < e - s ∧ o (s + j) = u
        · obtain ⟨j, hj, rfl⟩ := q
          exact k2 j hj
        · have := k3 u (fun j hj z => q ⟨j, hj, z⟩)
          rw [this.1, this.2, h9 7 t (Or.inl ⟨by decide, by decide, by decide, by decide⟩), h9 8 t (Or.inl ⟨by decide, by decide, by decide, by decide⟩)]
          refine hA u hu (fun i hi z => ?_)
          by_cases q1 : i < s
          · exact hno i (by omega) (by unfold delO; rw [if_pos q1]; exact z)
          · by_cases q2 : e ≤ i
            · exact hno (i - (e - s)) (by omega) (by unfold delO; rw [if_neg (by omega), show i - (e - s) + (e - s) = i by omega]; exact z)
            · exact q ⟨i - s, by omega, by rw [show s + (i - s) = i by omega]; exact z⟩
    · intro i hi ih S2 k1 k2 k3
      have o24 := hS.2.2.2.1 (s + i) (by omega)
      refine bl_X4_prune_8 hG t _ (nI (e - s)) (nI i) S2 ?_
      refine pk_le (e - s) i (fun h => by omega) (fun _ => ?_)
      rw [k1 9 t (Or.inl ⟨by decide, by decide⟩), nI_clamp (show i < 2 ^ 31 by omega), g2 i hi, nI_clamp (show o (s + i) < 2 ^ 31 by omega), nI_1]
      refine ⟨pk_in i 24 (by omega), pk_in _ 24 o24, ?_⟩
      intro S3 e3
      have k9 : S3 9 t i = nI (o (s + i)) := by rw [e3, su_o (Or.inl (by decide)), k1 9 t (Or.inl ⟨by decide, by decide⟩)]; exact g2 i hi
      rw [k9, nI_clamp (show o (s + i) < 2 ^ 31 by omega)]
      refine ⟨pk_in i 24 (by omega), pk_in _ 24 o24, ?_⟩
      intro S4 e4
      refine ih S4 (fun a b q => ?_) (fun j hj => ?_) (fun v hv => ?_)
      · rw [e4, su_o (by omega), e3, su_o (by omega)]; exact k1 a b q
      · by_cases q : j = i
        · subst q
          exact ⟨by rw [e4, su_o (Or.inl (by decide)), e3, su_at], by rw [e4, su_at]⟩
        · have hne : o (s + j) ≠ o (s + i) := fun z => by have := inj _ _ (by omega) (by omega) z; omega
          rw [e4, su_o (Or.inl (by decide)), e3, su_j hne, su_j hne, su_o (Or.inl (by decide))]
          exact k2 j (by omega)
      · have hne : v ≠ o (s + i) := fun z => hv i (by omega) z.symm
        rw [e4, su_o (Or.inl (by decide)), e3, su_j hne, su_j hne, su_o (Or.inl (by decide))]
        exact k3 v (fun j hj => hv j (by omega))
  exact key 0 (by omega) S1 (fun _ _ _ => rfl) (fun j hj => by omega) (fun v _ => ⟨rfl, rfl⟩)
