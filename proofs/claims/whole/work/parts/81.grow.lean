/-! CONSTRUCTORS: worlds that grow. -/
theorem cn_Piff {D : va_G} {cl : List vw_C} {ws : va_W} {H : Heap} : va_P D cl ws H ↔ ∀ q ∈ ws, va_at D cl q H :=
  ⟨fun h q hq => by obtain ⟨k, hk⟩ := List.getElem?_of_mem hq; exact h k q hk, fun h k q hk => h q (List.mem_of_getElem? hk)⟩
theorem cn_Diff {A : Nat → Prop} {ws : va_W} : va_D A ws ↔ (ws.map Prod.fst).Nodup ∧ ∀ q ∈ ws, A q.1 := by
  constructor
  · rintro ⟨h1, h2⟩
    refine ⟨?_, fun q hq => by obtain ⟨k, hk⟩ := List.getElem?_of_mem hq; exact h2 k q hk⟩
    unfold List.Nodup
    rw [List.pairwise_map, List.pairwise_iff_getElem]
    intro i j hi hj hij e
    have := h1 i j _ _ (List.getElem?_eq_getElem hi) (List.getElem?_eq_getElem hj) e
    omega
  · rintro ⟨h1, h2⟩
    refine ⟨fun i j p q hi hj e => ?_, fun k q hk => h2 q (List.mem_of_getElem? hk)⟩
    unfold List.Nodup at h1
    rw [List.pairwise_map, List.pairwise_iff_getElem] at h1
    obtain ⟨li, ei⟩ := List.getElem?_eq_some_iff.mp hi
    obtain ⟨lj, ej⟩ := List.getElem?_eq_some_iff.mp hj
    rcases Nat.lt_trichotomy i j with h | h | h
    · exact absurd (by rw [ei, ej]; exact e) (h1 i j li lj h)
    · exact h
    · exact absurd (by rw [ei, ej]; exact e.symm) (h1 j i lj li h)
theorem cn_Dapp {A : Nat → Prop} {w1 w2 : va_W} : va_D A (w1 ++ w2) ↔ va_D A w1 ∧ va_D A w2 ∧ ∀ p ∈ w1, ∀ q ∈ w2, p.1 ≠ q.1 := by
  rw [cn_Diff, cn_Diff, cn_Diff, List.map_append, List.nodup_append]
  constructor
  · rintro ⟨⟨h1, h2, h3⟩, h4⟩
    exact ⟨⟨h1, fun q hq => h4 q (List.mem_append_left _ hq)⟩, ⟨h2, fun q hq => h4 q (List.mem_append_right _ hq)⟩, fun p hp q hq => h3 p.1 (List.mem_map.mpr ⟨p, hp, rfl⟩) q.1 (List.mem_map.mpr ⟨q, hq, rfl⟩)⟩
  · rintro ⟨⟨h1, h4⟩, ⟨h2, h5⟩, h3⟩
    refine ⟨⟨h1, h2, fun a ha b hb => ?_⟩, fun q hq => (List.mem_append.mp hq).elim (h4 q) (h5 q)⟩
    obtain ⟨p, hp, rfl⟩ := List.mem_map.mp ha
    obtain ⟨q, hq, rfl⟩ := List.mem_map.mp hb
    exact h3 p hp q hq
theorem cn_Papp {D : va_G} {cl : List vw_C} {w1 w2 : va_W} {H : Heap} : va_P D cl (w1 ++ w2) H ↔ va_P D cl w1 H ∧ va_P D cl w2 H := by
  rw [cn_Piff, cn_Piff, cn_Piff]
  exact ⟨fun h => ⟨fun q hq => h q (List.mem_append_left _ hq), fun q hq => h q (List.mem_append_right _ hq)⟩, fun h q hq => (List.mem_append.mp hq).elim (h.1 q) (h.2 q)⟩
theorem cn_ids {o : ab_Ob} : o ∈ ab_ids ↔ o.2 < ab_nb o.1 := by
  constructor
  · intro h
    obtain ⟨κ, -, h2⟩ := List.mem_flatMap.mp h
    obtain ⟨i, h3, rfl⟩ := List.mem_map.mp h2
    exact List.mem_range.mp h3
  · intro h
    exact ab_mem h
theorem cn_mem {ad : ab_Ob → Nat} {cy : Nat → ClassId} {S : ab_S} {x : Nat × va_E} : x ∈ ab_wl ad cy S ↔ ∃ o, o ∈ ab_ids ∧ ad o ≠ 0 ∧ x = (ad o, ab_enc ad cy S o) := by
  unfold ab_wl ab_idp
  rw [List.mem_map]
  constructor
  · rintro ⟨o, ho, rfl⟩
    obtain ⟨h1, h2⟩ := List.mem_filter.mp ho
    exact ⟨o, h1, of_decide_eq_true h2, rfl⟩
  · rintro ⟨o, h1, h2, rfl⟩
    exact ⟨o, List.mem_filter.mpr ⟨h1, decide_eq_true h2⟩, rfl⟩
theorem cn_wlP {D : va_G} {ad : ab_Ob → Nat} {cy : Nat → ClassId} {S : ab_S} {H : Heap} : va_P D vwCl (ab_wl ad cy S) H ↔ ∀ o, o ∈ ab_ids → ad o ≠ 0 → va_at D vwCl (ad o, ab_enc ad cy S o) H := by
  rw [cn_Piff]
  constructor
  · intro h o h1 h2
    exact h _ (cn_mem.mpr ⟨o, h1, h2, rfl⟩)
  · intro h q hq
    obtain ⟨o, h1, h2, rfl⟩ := cn_mem.mp hq
    exact h o h1 h2
theorem cn_wlD {A : Nat → Prop} {ad : ab_Ob → Nat} {cy : Nat → ClassId} {S : ab_S} : va_D A (ab_wl ad cy S) ↔ (∀ o, o ∈ ab_ids → ∀ o', o' ∈ ab_ids → ad o ≠ 0 → ad o = ad o' → o = o') ∧ ∀ o, o ∈ ab_ids → ad o ≠ 0 → A (ad o) := by
  rw [cn_Diff]
  have he : (ab_wl ad cy S).map Prod.fst = (ab_idp ad).map ad := by
    unfold ab_wl
    rw [List.map_map]
    rfl
  rw [he]
  constructor
  · rintro ⟨h1, h2⟩
    refine ⟨fun o ho o' ho' hp e => ?_, fun o ho hp => h2 _ (cn_mem.mpr ⟨o, ho, hp, rfl⟩)⟩
    unfold List.Nodup at h1
    rw [List.pairwise_map, List.pairwise_iff_getElem] at h1
    have m1 : o ∈ ab_idp ad := ab_memp (κ := o.1) (i := o.2) ⟨cn_ids.mp ho, hp⟩
    have m2 : o' ∈ ab_idp ad := ab_memp (κ := o'.1) (i := o'.2) ⟨cn_ids.mp ho', by rw [e] at hp; exact hp⟩
    obtain ⟨i, hi⟩ := List.getElem?_of_mem m1
    obtain ⟨j, hj⟩ := List.getElem?_of_mem m2
    obtain ⟨li, ei⟩ := List.getElem?_eq_some_iff.mp hi
    obtain ⟨lj, ej⟩ := List.getElem?_eq_some_iff.mp hj
    rcases Nat.lt_trichotomy i j with h | h | h
    · exact absurd (by rw [ei, ej]; exact e) (h1 i j li lj h)
    · subst h; exact ei.symm.trans ej
    · exact absurd (by rw [ei, ej]; exact e.symm) (h1 j i lj li h)
  · rintro ⟨h1, h2⟩
    refine ⟨?_, fun q hq => ?_⟩
    · unfold List.Nodup
      rw [List.pairwise_map, List.pairwise_iff_getElem]
      intro i j hi hj hij e
      obtain ⟨a1, a2⟩ := List.mem_filter.mp (List.getElem_mem hi)
      obtain ⟨b1, b2⟩ := List.mem_filter.mp (List.getElem_mem hj)
      exact List.pairwise_iff_getElem.mp (ab_nodup ad) i j hi hj hij (h1 _ a1 _ b1 (of_decide_eq_true a2) e)
    · obtain ⟨o, a1, a2, rfl⟩ := cn_mem.mp hq
      exact h2 o a1 a2
theorem cn_arrV {c : ClassId} {N : Nat} {f g : Nat → Value} (h : ∀ j, j < N → f j = g j) : arrV c N f = arrV c N g := by
  unfold arrV
  congr 1
  apply Array.ext
  · simp
  · intro i h1 h2
    simp at h1
    simp [h i h1]
/-- how many places a kind has -/
def cn_sz (κ : Nat) : Nat := match ab_ar κ with
  | some (_, n) => n
  | none => 27
theorem cn_tag {κ t n : Nat} (h : ab_ar κ = some (t, n)) : t = 0 ∨ t = 1 ∨ t = 2 ∨ t = 3 ∨ (t = 4 ∧ n = 1) := by
  unfold ab_ar at h
  split at h <;> cases h <;> decide
theorem cn_nf (κ : Nat) : ab_nf κ ≤ 27 := by unfold ab_nf; split <;> omega
theorem cn_at {D : va_G} {ad ad' : ab_Ob → Nat} {cy : Nat → ClassId} {S S' : ab_S} {o : ab_Ob} {q : Nat} {H : Heap} (hc : ab_cld ad) (ho : o ∈ ab_ids) (hp : ad o ≠ 0) (heq : ∀ x, x ∈ ab_ids → ad x ≠ 0 → ad' x = ad x) (hS : ∀ j, j < cn_sz o.1 → S' o.1 o.2 j = S o.1 o.2 j)
    (h : va_at D vwCl (q, ab_enc ad cy S o) H) : va_at D vwCl (q, ab_enc ad' cy S' o) H := by
  obtain ⟨κ, i⟩ := o
  have hi : i < ab_nb κ := cn_ids.mp ho
  have hcl := hc κ i hi hp
  have hsz : cn_sz κ = match ab_ar κ with | some (_, n) => n | none => 27 := rfl
  simp only at hS
  cases ha : ab_ar κ with
  | none =>
    rw [ab_enc_obj ha] at h ⊢
    rw [ha] at hsz
    simp only at hsz
    rw [hsz] at hS
    have hl : ((List.range (ab_nf κ)).map fun f => ab_val ad' (ab_fv κ f i S')) = (List.range (ab_nf κ)).map fun f => ab_val ad (ab_fv κ f i S) := by
      apply List.map_congr_left
      intro f hf
      have hf' := List.mem_range.mp hf
      have h27 := cn_nf κ
      unfold ab_fv
      cases he : ab_fr κ f i with
      | none => simp only; rw [hS f (by omega)]; rfl
      | some x =>
        have hx := ab_fr_nb κ (ab_nb_lt hi) f (by omega) i (Nat.lt_of_lt_of_le hi (ab_nb_le κ ha)) hi
        rw [he] at hx
        show Value.ref (ad' x) = Value.ref (ad x)
        rw [heq x (cn_ids.mpr (of_decide_eq_true hx)) (hcl.1 f (by omega) x he)]
    rw [hl]
    exact h
  | some x =>
    obtain ⟨t, n⟩ := x
    rw [ha] at hsz
    simp only at hsz
    rw [hsz] at hS
    have hr : ∀ j, j < n → (t = 2 ∨ t = 3) → ad' (ab_el κ j) = ad (ab_el κ j) := fun j hj ht => by
      have := ab_el_ok (i := i) hc ⟨hi, hp⟩ ha ht hj
      exact heq _ (cn_ids.mpr this.1) this.2
    rcases cn_tag ha with rfl | rfl | rfl | rfl | ⟨rfl, rfl⟩
    · rw [ab_enc_int ha] at h ⊢
      have h : H[q]? = some (arrV (cy 0) n fun j => .int (S κ i j)) := h
      show H[q]? = some (arrV (cy 0) n fun j => .int (S' κ i j))
      rw [h, cn_arrV (f := fun j => Value.int (S κ i j)) (g := fun j => Value.int (S' κ i j)) (fun j hj => by rw [hS j hj])]
    · rw [ab_enc_bool ha] at h ⊢
      have h : H[q]? = some (arrV (cy 1) n fun j => .int (S κ i j)) := h
      show H[q]? = some (arrV (cy 1) n fun j => .int (S' κ i j))
      rw [h, cn_arrV (f := fun j => Value.int (S κ i j)) (g := fun j => Value.int (S' κ i j)) (fun j hj => by rw [hS j hj])]
    · rw [ab_enc_ref2 ha] at h ⊢
      have h : H[q]? = some (arrV (cy 2) n fun j => va_rf (some (ad (ab_el κ j)))) := h
      show H[q]? = some (arrV (cy 2) n fun j => va_rf (some (ad' (ab_el κ j))))
      rw [h, cn_arrV (f := fun j => va_rf (some (ad (ab_el κ j)))) (g := fun j => va_rf (some (ad' (ab_el κ j)))) (fun j hj => by rw [hr j hj (Or.inl rfl)])]
    · rw [ab_enc_ref3 ha] at h ⊢
      have h : H[q]? = some (arrV (cy 3) n fun j => va_rf (some (ad (ab_el κ j)))) := h
      show H[q]? = some (arrV (cy 3) n fun j => va_rf (some (ad' (ab_el κ j))))
      rw [h, cn_arrV (f := fun j => va_rf (some (ad (ab_el κ j)))) (g := fun j => va_rf (some (ad' (ab_el κ j)))) (fun j hj => by rw [hr j hj (Or.inr rfl)])]
    · simp only [ab_enc, ha] at h ⊢
      have h : H[q]? = some (arrV (cy 4) 1 fun _ => .long ((S κ i 0).toInt64)) := h
      show H[q]? = some (arrV (cy 4) 1 fun _ => .long ((S' κ i 0).toInt64))
      rw [h, hS 0 (by decide)]
/-- another store that says the same -/
theorem cn_re {D : va_G} {ad : ab_Ob → Nat} {cy : Nat → ClassId} {S S' : ab_S} {H : Heap} (hc : ab_cld ad) (hS : ∀ o, o ∈ ab_ids → ad o ≠ 0 → ∀ j, j < cn_sz o.1 → S' o.1 o.2 j = S o.1 o.2 j) (h : va_P D vwCl (ab_wl ad cy S) H) : va_P D vwCl (ab_wl ad cy S') H :=
  cn_wlP.mpr fun o ho hp => cn_at hc ho hp (fun _ _ _ => rfl) (hS o ho hp) (cn_wlP.mp h o ho hp)
/-- two worlds as one -/
def cn_or (ad1 ad2 : ab_Ob → Nat) : ab_Ob → Nat := fun o => if ad1 o = 0 then ad2 o else ad1 o
theorem cn_or1 {ad1 ad2 : ab_Ob → Nat} {o : ab_Ob} (h : ad1 o ≠ 0) : cn_or ad1 ad2 o = ad1 o := if_neg h
theorem cn_or2 {ad1 ad2 : ab_Ob → Nat} {o : ab_Ob} (h : ad1 o = 0) : cn_or ad1 ad2 o = ad2 o := if_pos h
theorem cn_join {D : va_G} {A : Nat → Prop} {ws : va_W} {ad1 ad2 : ab_Ob → Nat} {cy : Nat → ClassId} {S1 S2 S : ab_S} {H : Heap} (c1 : ab_cld ad1) (c2 : ab_cld ad2) (hdis : ∀ o, o ∈ ab_ids → ad1 o ≠ 0 → ad2 o = 0)
    (h1 : ∀ o, o ∈ ab_ids → ad1 o ≠ 0 → ∀ j, j < cn_sz o.1 → S o.1 o.2 j = S1 o.1 o.2 j) (h2 : ∀ o, o ∈ ab_ids → ad2 o ≠ 0 → ∀ j, j < cn_sz o.1 → S o.1 o.2 j = S2 o.1 o.2 j)
    (hP : va_P D vwCl (ws ++ (ab_wl ad1 cy S1 ++ ab_wl ad2 cy S2)) H) (hD : va_D A (ws ++ (ab_wl ad1 cy S1 ++ ab_wl ad2 cy S2))) :
    va_P D vwCl (ws ++ ab_wl (cn_or ad1 ad2) cy S) H ∧ va_D A (ws ++ ab_wl (cn_or ad1 ad2) cy S) := by
  obtain ⟨p0, p12⟩ := cn_Papp.mp hP
  obtain ⟨p1, p2⟩ := cn_Papp.mp p12
  obtain ⟨d0, d12, x0⟩ := cn_Dapp.mp hD
  obtain ⟨d1, d2, x1⟩ := cn_Dapp.mp d12
  have e1 : ∀ x, x ∈ ab_ids → ad1 x ≠ 0 → cn_or ad1 ad2 x = ad1 x := fun x _ h => cn_or1 h
  have e2 : ∀ x, x ∈ ab_ids → ad2 x ≠ 0 → cn_or ad1 ad2 x = ad2 x := fun x hx h => cn_or2 (Decidable.byContradiction fun z => h (hdis x hx z))
  have cs : ∀ o, o ∈ ab_ids → cn_or ad1 ad2 o ≠ 0 → (ad1 o ≠ 0 ∧ cn_or ad1 ad2 o = ad1 o) ∨ (ad2 o ≠ 0 ∧ cn_or ad1 ad2 o = ad2 o) := fun o ho h => by
    by_cases z : ad1 o = 0
    · rw [cn_or2 z] at h; exact Or.inr ⟨h, cn_or2 z⟩
    · exact Or.inl ⟨z, cn_or1 z⟩
  refine ⟨cn_Papp.mpr ⟨p0, cn_wlP.mpr fun o ho hp => ?_⟩, cn_Dapp.mpr ⟨d0, cn_wlD.mpr ⟨fun o ho o' ho' hp e => ?_, fun o ho hp => ?_⟩, fun x hx y hy => ?_⟩⟩
  · rcases cs o ho hp with ⟨z, ez⟩ | ⟨z, ez⟩
    · rw [ez]; exact cn_at c1 ho z e1 (h1 o ho z) (cn_wlP.mp p1 o ho z)
    · rw [ez]; exact cn_at c2 ho z e2 (h2 o ho z) (cn_wlP.mp p2 o ho z)
  · rcases cs o ho hp with ⟨z, ez⟩ | ⟨z, ez⟩ <;> rcases cs o' ho' (by rw [← e]; exact hp) with ⟨z', ez'⟩ | ⟨z', ez'⟩ <;> rw [ez, ez'] at e
    · exact (cn_wlD.mp d1).1 o ho o' ho' z e
    · exact absurd e (x1 _ (cn_mem.mpr ⟨o, ho, z, rfl⟩) _ (cn_mem.mpr ⟨o', ho', z', rfl⟩))
    · exact absurd e.symm (x1 _ (cn_mem.mpr ⟨o', ho', z', rfl⟩) _ (cn_mem.mpr ⟨o, ho, z, rfl⟩))
    · exact (cn_wlD.mp d2).1 o ho o' ho' z e
  · rcases cs o ho hp with ⟨z, ez⟩ | ⟨z, ez⟩ <;> rw [ez]
    · exact (cn_wlD.mp d1).2 o ho z
    · exact (cn_wlD.mp d2).2 o ho z
  · obtain ⟨o, ho, hp, rfl⟩ := cn_mem.mp hy
    rcases cs o ho hp with ⟨z, ez⟩ | ⟨z, ez⟩ <;> simp only [ez]
    · exact x0 x hx _ (List.mem_append_left _ (cn_mem.mpr ⟨o, ho, z, rfl⟩))
    · exact x0 x hx _ (List.mem_append_right _ (cn_mem.mpr ⟨o, ho, z, rfl⟩))
/-- a world, and single cells beside it -/
def cn_ad : List (ab_Ob × Nat) → (ab_Ob → Nat) → ab_Ob → Nat
  | [], ad, o => ad o
  | p :: L, ad, o => if o = p.1 then p.2 else cn_ad L ad o
theorem cn_ad_cases (L : List (ab_Ob × Nat)) (ad : ab_Ob → Nat) (o : ab_Ob) : (∃ p, p ∈ L ∧ o = p.1 ∧ cn_ad L ad o = p.2) ∨ ((∀ p, p ∈ L → o ≠ p.1) ∧ cn_ad L ad o = ad o) := by
  induction L with
  | nil => exact Or.inr ⟨fun p h => absurd h List.not_mem_nil, rfl⟩
  | cons p L ih =>
    by_cases h : o = p.1
    · exact Or.inl ⟨p, List.mem_cons_self, h, if_pos h⟩
    · rcases ih with ⟨x, h1, h2, h3⟩ | ⟨h1, h2⟩
      · exact Or.inl ⟨x, List.mem_cons_of_mem _ h1, h2, (if_neg h).trans h3⟩
      · refine Or.inr ⟨fun x hx => ?_, (if_neg h).trans h2⟩
        rcases List.mem_cons.mp hx with rfl | hx
        · exact h
        · exact h1 x hx
theorem cn_ext {D : va_G} {A : Nat → Prop} {ws : va_W} {L : List (ab_Ob × Nat)} {ad1 : ab_Ob → Nat} {cy : Nat → ClassId} {S1 S : ab_S} {H : Heap} (c1 : ab_cld ad1) (hk : ∀ p, p ∈ L → ad1 p.1 = 0)
    (h1 : ∀ o, o ∈ ab_ids → ad1 o ≠ 0 → ∀ j, j < cn_sz o.1 → S o.1 o.2 j = S1 o.1 o.2 j) (hw : ws.map Prod.fst = L.map Prod.snd) (hat : ∀ p, p ∈ L → va_at D vwCl (p.2, ab_enc (cn_ad L ad1) cy S p.1) H)
    (hP : va_P D vwCl (ws ++ ab_wl ad1 cy S1) H) (hD : va_D A (ws ++ ab_wl ad1 cy S1)) : va_P D vwCl (ab_wl (cn_ad L ad1) cy S) H ∧ va_D A (ab_wl (cn_ad L ad1) cy S) := by
  obtain ⟨p0, p1⟩ := cn_Papp.mp hP
  obtain ⟨d0, d1, x0⟩ := cn_Dapp.mp hD
  have e1 : ∀ x, x ∈ ab_ids → ad1 x ≠ 0 → cn_ad L ad1 x = ad1 x := fun x _ h => by
    rcases cn_ad_cases L ad1 x with ⟨p, hp, rfl, -⟩ | ⟨-, z⟩
    · exact absurd (hk p hp) h
    · exact z
  have nd := (cn_Diff.mp d0).1
  rw [hw] at nd
  have inw : ∀ p, p ∈ L → ∃ x, x ∈ ws ∧ x.1 = p.2 := fun p hp => by
    have : p.2 ∈ ws.map Prod.fst := by rw [hw]; exact List.mem_map.mpr ⟨p, hp, rfl⟩
    exact List.mem_map.mp this
  have inj : ∀ p, p ∈ L → ∀ p', p' ∈ L → p.2 = p'.2 → p = p' := fun p hp p' hp' e => by
    unfold List.Nodup at nd
    rw [List.pairwise_map, List.pairwise_iff_getElem] at nd
    obtain ⟨i, hi⟩ := List.getElem?_of_mem hp
    obtain ⟨j, hj⟩ := List.getElem?_of_mem hp'
    obtain ⟨li, ei⟩ := List.getElem?_eq_some_iff.mp hi
    obtain ⟨lj, ej⟩ := List.getElem?_eq_some_iff.mp hj
    rcases Nat.lt_trichotomy i j with h | h | h
    · exact absurd (by rw [ei, ej]; exact e) (nd i j li lj h)
    · subst h; exact ei.symm.trans ej
    · exact absurd (by rw [ei, ej]; exact e.symm) (nd j i lj li h)
  refine ⟨cn_wlP.mpr fun o ho hp => ?_, cn_wlD.mpr ⟨fun o ho o' ho' hp e => ?_, fun o ho hp => ?_⟩⟩
  · rcases cn_ad_cases L ad1 o with ⟨p, h2, rfl, h3⟩ | ⟨-, h3⟩
    · rw [h3]; exact hat p h2
    · rw [h3] at hp ⊢; exact cn_at c1 ho hp e1 (h1 o ho hp) (cn_wlP.mp p1 o ho hp)
  · rcases cn_ad_cases L ad1 o with ⟨p, h2, rfl, h3⟩ | ⟨-, h3⟩ <;> rcases cn_ad_cases L ad1 o' with ⟨p', h2', rfl, h3'⟩ | ⟨-, h3'⟩ <;> rw [h3] at hp <;> rw [h3, h3'] at e
    · rw [inj p h2 p' h2' e]
    · obtain ⟨x, hx, hx1⟩ := inw p h2
      exact absurd (hx1.trans e) (x0 x hx _ (cn_mem.mpr ⟨o', ho', by rw [← e]; exact hp, rfl⟩))
    · obtain ⟨x, hx, hx1⟩ := inw p' h2'
      exact absurd (hx1.trans e.symm) (x0 x hx _ (cn_mem.mpr ⟨o, ho, hp, rfl⟩))
    · exact (cn_wlD.mp d1).1 o ho o' ho' hp e
  · rcases cn_ad_cases L ad1 o with ⟨p, h2, rfl, h3⟩ | ⟨-, h3⟩ <;> rw [h3] at hp ⊢
    · obtain ⟨x, hx, hx1⟩ := inw p h2
      rw [← hx1]; exact (cn_Diff.mp d0).2 x hx
    · exact (cn_wlD.mp d1).2 o ho hp
/-- which objects are there; that none refers to another that isn't -/
def cn_pr (ad : ab_Ob → Nat) (pr : ab_Ob → Bool) : Prop := ∀ o, o ∈ ab_ids → (ad o ≠ 0 ↔ pr o = true)
def cn_cl1 (pr : ab_Ob → Bool) (o : ab_Ob) : Bool := !pr o || (((List.range 27).all fun f => (ab_fr o.1 f o.2).all fun x => decide (x.2 < ab_nb x.1) && pr x) && match ab_ar o.1 with
  | some (t, n) => !(decide (t = 2) || decide (t = 3)) || (List.range n).all fun j => decide ((ab_el o.1 j).2 < ab_nb (ab_el o.1 j).1) && pr (ab_el o.1 j)
  | none => true)
def cn_clb (pr : ab_Ob → Bool) : Bool := ab_ids.all (cn_cl1 pr)
theorem cn_pr.cld {ad : ab_Ob → Nat} {pr : ab_Ob → Bool} (h : cn_pr ad pr) (hc : cn_clb pr = true) : ab_cld ad := by
  intro κ i hi hp
  have h1 := List.all_eq_true.mp hc (κ, i) (ab_mem hi)
  unfold cn_cl1 at h1
  rw [(h (κ, i) (ab_mem hi)).mp hp] at h1
  simp only [Bool.not_true, Bool.false_or, Bool.and_eq_true] at h1
  obtain ⟨h2, h3⟩ := h1
  refine ⟨fun f hf o he => ?_, fun t n j ha ht hj => ?_⟩
  · have h4 := List.all_eq_true.mp h2 f (List.mem_range.mpr hf)
    rw [he] at h4
    simp only [Option.all_some, Bool.and_eq_true, decide_eq_true_eq] at h4
    exact (h o (cn_ids.mpr h4.1)).mpr h4.2
  · rw [ha] at h3
    simp only [Bool.or_eq_true, Bool.not_eq_true'] at h3
    rcases h3 with h3 | h3
    · rcases ht with rfl | rfl <;> simp at h3
    · have h4 := List.all_eq_true.mp h3 j (List.mem_range.mpr hj)
      simp only [Bool.and_eq_true, decide_eq_true_eq] at h4
      exact (h _ (cn_ids.mpr h4.1)).mpr h4.2
theorem cn_pr.or {ad1 ad2 : ab_Ob → Nat} {p1 p2 : ab_Ob → Bool} (h1 : cn_pr ad1 p1) (h2 : cn_pr ad2 p2) : cn_pr (cn_or ad1 ad2) (fun o => p1 o || p2 o) := by
  intro o ho
  show cn_or ad1 ad2 o ≠ 0 ↔ (p1 o || p2 o) = true
  by_cases z : ad1 o = 0
  · rw [cn_or2 z]
    have : p1 o = false := by
      cases hp : p1 o
      · rfl
      · exact absurd z ((h1 o ho).mpr hp)
    rw [this, Bool.false_or]; exact h2 o ho
  · rw [cn_or1 z, (h1 o ho).mp z, Bool.true_or]; exact ⟨fun _ => rfl, fun _ => z⟩
theorem cn_pr.ext {ad : ab_Ob → Nat} {p1 : ab_Ob → Bool} {L : List (ab_Ob × Nat)} (h1 : cn_pr ad p1) (hk : ∀ p, p ∈ L → p.2 ≠ 0) : cn_pr (cn_ad L ad) (fun o => (L.map Prod.fst).contains o || p1 o) := by
  intro o ho
  simp only
  rcases cn_ad_cases L ad o with ⟨p, h2, rfl, h3⟩ | ⟨h2, h3⟩
  · rw [h3]
    have : (L.map Prod.fst).contains p.1 = true := List.contains_iff_mem.mpr (List.mem_map.mpr ⟨p, h2, rfl⟩)
    rw [this, Bool.true_or]
    exact ⟨fun _ => rfl, fun _ => hk p h2⟩
  · rw [h3]
    have : (L.map Prod.fst).contains o = false := by
      cases hc : (L.map Prod.fst).contains o
      · rfl
      · obtain ⟨p, hp, e⟩ := List.mem_map.mp (List.contains_iff_mem.mp hc)
        exact absurd e.symm (h2 p hp)
    rw [this, Bool.false_or]; exact h1 o ho
theorem cn_pr.to {ad : ab_Ob → Nat} {p1 p2 : ab_Ob → Bool} (h : cn_pr ad p1) (he : ∀ o, o ∈ ab_ids → p1 o = p2 o) : cn_pr ad p2 := fun o ho => by rw [← he o ho]; exact h o ho
theorem cn_pr.none : cn_pr (fun _ => 0) (fun _ => false) := fun _ _ => ⟨fun h => absurd rfl h, fun h => by cases h⟩
theorem cn_nil {D : va_G} {cy : Nat → ClassId} {S : ab_S} : ab_wl (fun _ => 0) cy S = [] := by
  apply List.eq_nil_iff_forall_not_mem.mpr
  intro x hx
  obtain ⟨o, -, h, -⟩ := cn_mem.mp hx
  exact h rfl
/-- what a constructor knows of the machine -/
def cn_K (D : va_G) (base : Nat) (cy : Nat → ClassId) (sa : Nat → Nat) (U : State) : Prop :=
  va_K D vwCl (ab_tys cy) U ∧ (∀ t ∈ ab_nest, va_Nw (.methodLinkNest t.1 t.2 yX5_isIn "GroveMerge") U) ∧ (∀ t ∈ ab_strs, vk_R RX5 t.1 t.2 (sa t.1) U) ∧
  vx_Zq Bundle.tN "UNASSIGNED_STACK" Bundle.steD (ab_A base) U U.heap ∧ vx_Zq Bundle.tN "SUPPRESSED_SENTINEL" Bundle.listD (ab_A base) U U.heap ∧ (∀ w ∈ ab_nd, va_Nw (.declares w) U) ∧ (∀ E, E < 5 → va_Nw (.castable (ab_ex E) (ab_ex E)) U) ∧ va_AO "GroveMerge$Tree" U ∧ va_Nw (.arrayOver (.array .int)) U ∧ va_Nw (.methodLinkNest RX5 25 yX2_init "GroveMerge") U ∧ va_Nw (.methodLinkNest RX5 32 yX0_init "GroveMerge") U
theorem cn_K.kn {D : va_G} {base : Nat} {cy : Nat → ClassId} {sa : Nat → Nat} {U : State} {ad : ab_Ob → Nat} {S : ab_S} (h : cn_K D base cy sa U) (hD : va_D (ab_A base) (ab_wl ad cy S)) (hc : ab_cld ad) : ab_Kn D ad base cy sa U := by
  obtain ⟨h1, h2, h3, h4, h5, h6, h7, -⟩ := h
  exact ⟨h1, ⟨ab_D hD, hc⟩, h2, h3, h4, h5, h6, h7⟩
theorem cn_K.same {D : va_G} {base : Nat} {cy : Nat → ClassId} {sa : Nat → Nat} {u U : State} (hv : U.vm = u.vm) (hh : U.heap = u.heap) (h : cn_K D base cy sa u) : cn_K D base cy sa U := by
  obtain ⟨h1, h3, h4, h5, h6, h7, h8, h9, h10, h11, h12⟩ := h
  have al : u.vm.Alike U.vm := by rw [hv]; exact Vm.Alike.refl _
  refine ⟨va_K.moved al h1, fun t ht => va_Nw.same rfl hv.symm (h3 t ht), fun t ht => vk_R.same hv (h4 t ht), ?_, ?_, fun w hw => va_Nw.same rfl hv.symm (h7 w hw), fun E hE => va_Nw.same rfl hv.symm (h8 E hE), va_AO.moved al h9, arrayOver_alikeB al h10, va_Nw.same rfl hv.symm h11, va_Nw.same rfl hv.symm h12⟩
  · rw [hh]; exact vx_Zq.moved al h5
  · rw [hh]; exact vx_Zq.moved al h6
theorem cn_K.warm {D : va_G} {base : Nat} {cy : Nat → ClassId} {sa : Nat → Nat} {s U : State} (hW : s.WarmedH U.vm) (hk : ∀ q : Nat, q < s.heap.size → ¬ ab_A base q → U.heap[q]? = s.heap[q]?) (h : cn_K D base cy sa s) : cn_K D base cy sa U := by
  obtain ⟨h1, h3, h4, h5, h6, h7, h8, h9, h10, h11, h12⟩ := h
  refine ⟨va_K.moved hW.alike h1, fun t ht => va_Nw.warmM hW (h3 t ht), fun t ht => vk_R.warm hW (h4 t ht), ?_, ?_, fun w hw => va_Nw.warmD hW (h7 w hw), fun E hE => va_Nw.warmC hW (h8 E hE), va_AO.moved hW.alike h9, arrayOver_alikeB hW.alike h10, va_Nw.warmM hW h11, va_Nw.warmM hW h12⟩
  · exact vx_Zq.moved hW.alike (h5.kept hk)
  · exact vx_Zq.moved hW.alike (h6.kept hk)
theorem cn_K.up {D : va_G} {base b2 : Nat} {cy : Nat → ClassId} {sa : Nat → Nat} {U : State} (h : cn_K D base cy sa U) (hb : base ≤ b2) : cn_K D b2 cy sa U := by
  obtain ⟨h1, h3, h4, h5, h6, h7⟩ := h
  exact ⟨h1, h3, h4, h5.narrow (fun q hq => Nat.le_trans hb hq), h6.narrow (fun q hq => Nat.le_trans hb hq), h7⟩
