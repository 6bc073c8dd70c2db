/-! The abstract machine's world in the heap. -/
def ab_val (ad : ab_Ob → Nat) : ab_V → Value
  | .inl x => .int x
  | .inr o => .ref (ad o)
/-- an object is there if it has an address -/
def ab_okv (ad : ab_Ob → Nat) : ab_V → Prop
  | .inl _ => True
  | .inr o => o.2 < ab_nb o.1 ∧ ad o ≠ 0
def ab_oks (ad : ab_Ob → Nat) (st : List ab_V) : Prop := ∀ v ∈ st, ab_okv ad v
def ab_okl (ad : ab_Ob → Nat) (L : List (Option ab_V)) : Prop := ∀ v, some v ∈ L → ab_okv ad v
def ab_ids : List ab_Ob := (List.range 42).flatMap fun κ => (List.range (ab_nb κ)).map fun i => (κ, i)
def ab_enc (ad : ab_Ob → Nat) (cy : Nat → ClassId) (S : ab_S) (q : ab_Ob) : va_E := match ab_ar q.1 with
  | some (0, n) => .inl (cy 0, n, .inl (S q.1 q.2))
  | some (1, n) => .inl (cy 1, n, .inl (S q.1 q.2))
  | some (2, n) => .inl (cy 2, n, .inr (.inr (.inr (.inr (fun j => some (ad (ab_el q.1 j)))))))
  | some (3, n) => .inl (cy 3, n, .inr (.inr (.inr (.inr (fun j => some (ad (ab_el q.1 j)))))))
  | some (_, n) => .inl (cy 4, n, .inr (.inl (fun _ => (S q.1 q.2 0).toInt64)))
  | none => .inr (ab_ci q.1, (List.range (ab_nf q.1)).map fun f => ab_val ad (ab_fv q.1 f q.2 S))
def ab_idp (ad : ab_Ob → Nat) : List ab_Ob := ab_ids.filter fun q => decide (ad q ≠ 0)
def ab_wl (ad : ab_Ob → Nat) (cy : Nat → ClassId) (S : ab_S) : va_W := (ab_idp ad).map fun q => (ad q, ab_enc ad cy S q)
/-- what is there refers to what is there -/
def ab_cld (ad : ab_Ob → Nat) : Prop := ∀ κ i, i < ab_nb κ → ad (κ, i) ≠ 0 → (∀ f, f < 27 → ∀ o, ab_fr κ f i = some o → ad o ≠ 0) ∧ ∀ t n j, ab_ar κ = some (t, n) → (t = 2 ∨ t = 3) → j < n → ad (ab_el κ j) ≠ 0
def ab_A (base : Nat) : Nat → Prop := fun q => base ≤ q
def ab_tys (cy : Nat → ClassId) : List (ClassId × FieldType) := [(cy 0, .int), (cy 1, .boolean), (cy 2, .object "GroveMerge$Tree"), (cy 3, .array .int), (cy 4, .long)]
def ab_strs : List (Nat × String) := [(71, "all nodes were made"), (82, "the root can't be deleted"), (92, "a node can't be moved into its own part"), (108, "all commits were made"), (131, "the working tree is not the head's, or a commit is taken in"), (146, "no such conflict"), (157, "no such part"), (178, "the path finds no such node"), (190, "no such part of the state"), (202, "no such node in the working tree"), (204, "no such commit"), (206, "no such place"), (208, "no such label")]
def ab_nest : List (String × Nat) := [(RX1, 40), (RX3, 41), (RX4, 75)]
/-- words of the throws that a list doesn't keep -/
def ab_nd : List MethodName := [Bundle.initS "java/lang/RuntimeException", Bundle.initS "java/lang/Exception", Bundle.initS Bundle.tN]
def ab_nw : List Cond := ab_nd.map Cond.declares ++ (List.range 5).map fun E => Cond.castable (ab_ex E) (ab_ex E)
def ab_Kn (D : va_G) (ad : ab_Ob → Nat) (base : Nat) (cy : Nat → ClassId) (sa : Nat → Nat) (U : State) : Prop :=
  va_K D vwCl (ab_tys cy) U ∧ (va_D (ab_A base) (ab_wl ad cy (fun _ _ _ => 0)) ∧ ab_cld ad) ∧ (∀ t ∈ ab_nest, va_Nw (.methodLinkNest t.1 t.2 yX5_isIn "GroveMerge") U) ∧ (∀ t ∈ ab_strs, vk_R RX5 t.1 t.2 (sa t.1) U) ∧
  vx_Zq Bundle.tN "UNASSIGNED_STACK" Bundle.steD (ab_A base) U U.heap ∧ vx_Zq Bundle.tN "SUPPRESSED_SENTINEL" Bundle.listD (ab_A base) U U.heap ∧ (∀ w ∈ ab_nd, va_Nw (.declares w) U) ∧ ∀ E, E < 5 → va_Nw (.castable (ab_ex E) (ab_ex E)) U
def ab_lv (ad : ab_Ob → Nat) (L : List (Option ab_V)) : List (Nat × Value) := L.zipIdx.filterMap fun x => x.1.map fun v => (x.2, ab_val ad v)
theorem ab_cat (ad : ab_Ob → Nat) (v : ab_V) : (ab_val ad v).category = 1 := by cases v <;> rfl
theorem ab_cats (ad : ab_Ob → Nat) (st : List ab_V) : ((st.map (ab_val ad)).map fun v => v.category).sum = st.length := by
  induction st with
  | nil => rfl
  | cons v st ih => simp only [List.map_cons, List.sum_cons, List.length_cons, ab_cat, ih]; omega
theorem ab_lv_mem {ad : ab_Ob → Nat} {L : List (Option ab_V)} {i : Nat} {w : Value} : (i, w) ∈ ab_lv ad L ↔ ∃ v, L[i]? = some (some v) ∧ w = ab_val ad v := by
  unfold ab_lv
  rw [List.mem_filterMap]
  constructor
  · rintro ⟨⟨o, j⟩, hm, he⟩
    rw [List.mem_zipIdx_iff_getElem?] at hm
    cases o with
    | none => simp at he
    | some v =>
      simp at he
      obtain ⟨rfl, rfl⟩ := he
      exact ⟨v, hm, rfl⟩
  · rintro ⟨v, hv, rfl⟩
    exact ⟨(some v, i), List.mem_zipIdx_iff_getElem?.mpr hv, rfl⟩
theorem ab_lv_at {ad : ab_Ob → Nat} {ls : Array Slot} {nL : Nat} {L : List (Option ab_V)} (h : lv_has ls nL (ab_lv ad L)) {i : Nat} {v : ab_V} (hv : L[i]? = some (some v)) : ls[i]? = some (.val (ab_val ad v)) := h.2.2 (i, ab_val ad v) (ab_lv_mem.mpr ⟨v, hv, rfl⟩)
theorem ab_lv_set {ad : ab_Ob → Nat} {ls : Array Slot} {nL i : Nat} {v : ab_V} {L : List (Option ab_V)} (h : lv_has ls nL ((i, ab_val ad v) :: (ab_lv ad L).filter (fun q => !(q.1 == i) && !(q.1 + 1 == i && q.2.category == 2)))) : lv_has ls nL (ab_lv ad (L.set i (some v))) := by
  refine ⟨h.1, h.2.1, fun q hq => h.2.2 q ?_⟩
  obtain ⟨j, w⟩ := q
  obtain ⟨u, hu, rfl⟩ := ab_lv_mem.mp hq
  by_cases hj : j = i
  · subst hj
    rw [List.getElem?_set_self'] at hu
    cases hL : L[j]? with
    | none => rw [hL] at hu; simp at hu
    | some z =>
      rw [hL] at hu
      simp at hu
      subst hu
      exact List.mem_cons_self
  · rw [List.getElem?_set_ne (fun e => hj e.symm)] at hu
    refine List.mem_cons_of_mem _ (List.mem_filter.mpr ⟨ab_lv_mem.mpr ⟨u, hu, rfl⟩, ?_⟩)
    simp [hj, ab_cat]
theorem ab_okl_set {ad : ab_Ob → Nat} {L : List (Option ab_V)} {i : Nat} {v : ab_V} (h : ab_okl ad L) (hv : ab_okv ad v) : ab_okl ad (L.set i (some v)) := by
  intro w hw
  rcases List.mem_or_eq_of_mem_set hw with h1 | h1
  · exact h w h1
  · cases h1; exact hv
theorem ab_okl_at {ad : ab_Ob → Nat} {L : List (Option ab_V)} {i : Nat} {v : ab_V} (h : ab_okl ad L) (hv : L[i]? = some (some v)) : ab_okv ad v := h v (List.mem_of_getElem? hv)
theorem ab_oks_cons {ad : ab_Ob → Nat} {st : List ab_V} {v : ab_V} (h : ab_oks ad st) (hv : ab_okv ad v) : ab_oks ad (v :: st) := fun w hw => (List.mem_cons.mp hw).elim (fun e => e ▸ hv) (h w)
theorem ab_oks_tl {ad : ab_Ob → Nat} {st : List ab_V} {v : ab_V} (h : ab_oks ad (v :: st)) : ab_oks ad st := fun w hw => h w (List.mem_cons_of_mem _ hw)
theorem ab_oks_hd {ad : ab_Ob → Nat} {st : List ab_V} {v : ab_V} (h : ab_oks ad (v :: st)) : ab_okv ad v := h v List.mem_cons_self
theorem ab_lv_args (ad : ab_Ob → Nat) : ∀ (vs : List ab_V) (j i : Nat) (v : ab_V), vs[i]? = some v → (j + i, ab_val ad v) ∈ lv_args j (vs.map (ab_val ad))
  | [], j, i, v, h => by simp at h
  | u :: vs, j, 0, v, h => by
    simp at h
    subst h
    exact List.mem_cons_self
  | u :: vs, j, i + 1, v, h => by
    simp at h
    have := ab_lv_args ad vs (j + 1) i v h
    simp only [List.map_cons, lv_args, ab_cat]
    rw [show j + (i + 1) = j + 1 + i by omega]
    exact List.mem_cons_of_mem _ this
theorem ab_sl (ad : ab_Ob → Nat) (vs : List ab_V) : (lg_sl (vs.map (ab_val ad))).length = vs.length := by
  induction vs with
  | nil => rfl
  | cons v vs ih =>
    unfold lg_sl at ih ⊢
    simp only [List.map_cons, List.flatMap_cons, ab_cat, List.length_append, List.length_cons]
    rw [ih]
    simp
    omega
theorem ab_entry {ad : ab_Ob → Nat} {ls : Array Slot} {nL : Nat} {vs : List ab_V} (h : lv_has ls nL (lv_args 0 (vs.map (ab_val ad)))) (n : Nat) : lv_has ls nL (ab_lv ad (vs.map some ++ List.replicate n none)) := by
  refine ⟨h.1, h.2.1, fun q hq => h.2.2 q ?_⟩
  obtain ⟨j, w⟩ := q
  obtain ⟨u, hu, rfl⟩ := ab_lv_mem.mp hq
  have hj : vs[j]? = some u := by
    rw [List.getElem?_append] at hu
    split at hu
    · simpa using hu
    · rw [List.getElem?_replicate] at hu
      split at hu <;> simp at hu
  have := ab_lv_args ad vs 0 j u hj
  rwa [Nat.zero_add] at this
theorem ab_okl_entry {ad : ab_Ob → Nat} {vs : List ab_V} (h : ab_oks ad vs) (n : Nat) : ab_okl ad (vs.map some ++ List.replicate n none) := by
  intro v hv
  rcases List.mem_append.mp hv with h1 | h1
  · obtain ⟨u, hu, e⟩ := List.mem_map.mp h1
    cases e
    exact h _ hu
  · have := List.eq_of_mem_replicate h1
    cases this
/-! the list of the world's cells -/
theorem ab_nb_lt {κ i : Nat} (h : i < ab_nb κ) : κ < 42 := by
  apply Decidable.byContradiction
  intro hk
  have : ab_nb κ = 0 := by
    unfold ab_nb
    split <;> first | omega | (rw [if_neg hk])
  omega
theorem ab_mem {κ i : Nat} (h : i < ab_nb κ) : (κ, i) ∈ ab_ids := List.mem_flatMap.mpr ⟨κ, List.mem_range.mpr (ab_nb_lt h), List.mem_map.mpr ⟨i, List.mem_range.mpr h, rfl⟩⟩
theorem ab_nodup0 : ab_ids.Nodup := by decide +kernel
theorem ab_nodup (ad : ab_Ob → Nat) : (ab_idp ad).Nodup := ab_nodup0.filter _
theorem ab_memp {ad : ab_Ob → Nat} {κ i : Nat} (h : i < ab_nb κ ∧ ad (κ, i) ≠ 0) : (κ, i) ∈ ab_idp ad := List.mem_filter.mpr ⟨ab_mem h.1, decide_eq_true h.2⟩
theorem ab_pos {ad : ab_Ob → Nat} {κ i : Nat} (h : i < ab_nb κ ∧ ad (κ, i) ≠ 0) : ∃ n : Nat, (ab_idp ad)[n]? = some (κ, i) := List.getElem?_of_mem (ab_memp h)
theorem ab_wl_at {ad : ab_Ob → Nat} {cy : Nat → ClassId} {S : ab_S} {n : Nat} {q : ab_Ob} (h : (ab_idp ad)[n]? = some q) : (ab_wl ad cy S)[n]? = some (ad q, ab_enc ad cy S q) := by
  unfold ab_wl
  rw [List.getElem?_map, h]
  rfl
theorem ab_enc_congr {ad : ab_Ob → Nat} {cy : Nat → ClassId} {S S' : ab_S} {q : ab_Ob} (h : S' q.1 q.2 = S q.1 q.2) : ab_enc ad cy S' q = ab_enc ad cy S q := by
  unfold ab_enc ab_fv
  rw [h]
theorem ab_sr_ne {S : ab_S} {κ i : Nat} {f : Nat → Int32} {a b : Nat} (h : (a, b) ≠ (κ, i)) : ab_sr S κ i f a b = S a b := by
  unfold ab_sr
  rw [if_neg]
  rintro ⟨rfl, rfl⟩
  exact h rfl
theorem ab_sr_self {S : ab_S} {κ i : Nat} {f : Nat → Int32} : ab_sr S κ i f κ i = f := if_pos ⟨rfl, rfl⟩
theorem ab_set {ad : ab_Ob → Nat} {cy : Nat → ClassId} {S : ab_S} {n κ i : Nat} {f : Nat → Int32} {e : va_E} (hn : (ab_idp ad)[n]? = some (κ, i)) (he : ab_enc ad cy (ab_sr S κ i f) (κ, i) = e) : (ab_wl ad cy S).set n (ad (κ, i), e) = ab_wl ad cy (ab_sr S κ i f) := by
  apply List.ext_getElem?
  intro j
  by_cases hj : j = n
  · subst hj
    rw [ab_wl_at hn, List.getElem?_set_self', ab_wl_at hn, he]
    rfl
  · rw [List.getElem?_set_ne (fun e => hj e.symm)]
    unfold ab_wl
    rw [List.getElem?_map, List.getElem?_map]
    cases hq : (ab_idp ad)[j]? with
    | none => rfl
    | some q =>
      have hne : q ≠ (κ, i) := by
        intro e
        subst e
        have h1 := (List.getElem?_eq_some_iff.mp hq)
        have h2 := (List.getElem?_eq_some_iff.mp hn)
        obtain ⟨l1, e1⟩ := h1
        obtain ⟨l2, e2⟩ := h2
        rcases Nat.lt_or_gt_of_ne hj with h | h
        · exact List.pairwise_iff_getElem.mp (ab_nodup ad) j n l1 l2 h (e1.trans e2.symm)
        · exact List.pairwise_iff_getElem.mp (ab_nodup ad) n j l2 l1 h (e2.trans e1.symm)
      show some (ad q, _) = some (ad q, _)
      rw [ab_enc_congr (S := S) (S' := ab_sr S κ i f) (q := q) (ab_sr_ne (by rw [Prod.eta]; exact hne))]
theorem ab_D {ad : ab_Ob → Nat} {cy : Nat → ClassId} {A : Nat → Prop} {S S' : ab_S} (h : va_D A (ab_wl ad cy S)) : va_D A (ab_wl ad cy S') := by
  have key : ∀ (k : Nat) (q : Nat × va_E), (ab_wl ad cy S')[k]? = some q → ∃ e, (ab_wl ad cy S)[k]? = some (q.1, e) := by
    intro k q hk
    unfold ab_wl at hk ⊢
    rw [List.getElem?_map] at hk ⊢
    cases hq : (ab_idp ad)[k]? with
    | none => rw [hq] at hk; cases hk
    | some o =>
      rw [hq] at hk
      cases hk
      exact ⟨_, rfl⟩
  refine ⟨fun i j p q hi hj e => ?_, fun k q hk => ?_⟩
  · obtain ⟨e1, h1⟩ := key i p hi
    obtain ⟨e2, h2⟩ := key j q hj
    exact h.1 i j _ _ h1 h2 e
  · obtain ⟨e1, h1⟩ := key k q hk
    exact h.2 k (q.1, e1) h1
/-! the classes -/
def ab_cl (κ : Nat) : vw_C := vwCl.getD (ab_ci κ) (RX0, TX0, 0)
theorem ab_ci_lt (κ : Nat) : ab_ci κ < 6 := by
  unfold ab_ci
  split <;> omega
theorem ab_cl_at (κ : Nat) : vwCl[ab_ci κ]? = some ((ab_cl κ).1, (ab_cl κ).2.1, (ab_cl κ).2.2) := by
  have h := ab_ci_lt κ
  unfold ab_cl
  rw [List.getD_eq_getElem?_getD]
  have hl : ab_ci κ < vwCl.length := h
  rw [List.getElem?_eq_getElem hl]
  rfl
theorem ab_cl_ok (κ : Nat) : ∃ ty0 : Nat → FieldType, (∀ k, k < (ab_cl κ).2.2 → parseFieldDescriptor ((ab_cl κ).2.1 k).2.2.1 = some (ty0 k)) ∧ ∀ a, a < (ab_cl κ).2.2 → ∀ b, b < (ab_cl κ).2.2 → a ≠ b → ((ab_cl κ).2.1 a).2.1 ≠ ((ab_cl κ).2.1 b).2.1 := by
  have h := ab_ci_lt κ
  unfold ab_cl
  generalize ab_ci κ = n at h
  match n, h with
  | 0, _ => exact ⟨tyX0, tyX0_ok, nmX0⟩
  | 1, _ => exact ⟨tyX1, tyX1_ok, nmX1⟩
  | 2, _ => exact ⟨tyX2, tyX2_ok, nmX2⟩
  | 3, _ => exact ⟨tyX4, tyX4_ok, nmX4⟩
  | 4, _ => exact ⟨tyX5, tyX5_ok, nmX5⟩
  | 5, _ => exact ⟨tyX6, tyX6_ok, nmX6⟩
theorem ab_enc_obj {ad : ab_Ob → Nat} {cy : Nat → ClassId} {S : ab_S} {κ i : Nat} (h : ab_ar κ = none) : ab_enc ad cy S (κ, i) = .inr (ab_ci κ, (List.range (ab_nf κ)).map fun f => ab_val ad (ab_fv κ f i S)) := by
  simp only [ab_enc, h]
theorem ab_enc_int {ad : ab_Ob → Nat} {cy : Nat → ClassId} {S : ab_S} {κ i n : Nat} (h : ab_ar κ = some (0, n)) : ab_enc ad cy S (κ, i) = .inl (cy 0, n, .inl (S κ i)) := by
  simp only [ab_enc, h]
theorem ab_enc_bool {ad : ab_Ob → Nat} {cy : Nat → ClassId} {S : ab_S} {κ i n : Nat} (h : ab_ar κ = some (1, n)) : ab_enc ad cy S (κ, i) = .inl (cy 1, n, .inl (S κ i)) := by
  simp only [ab_enc, h]
theorem ab_enc_ref2 {ad : ab_Ob → Nat} {cy : Nat → ClassId} {S : ab_S} {κ i n : Nat} (h : ab_ar κ = some (2, n)) : ab_enc ad cy S (κ, i) = .inl (cy 2, n, .inr (.inr (.inr (.inr (fun j => some (ad (ab_el κ j))))))) := by
  simp only [ab_enc, h]
theorem ab_enc_ref3 {ad : ab_Ob → Nat} {cy : Nat → ClassId} {S : ab_S} {κ i n : Nat} (h : ab_ar κ = some (3, n)) : ab_enc ad cy S (κ, i) = .inl (cy 3, n, .inr (.inr (.inr (.inr (fun j => some (ad (ab_el κ j))))))) := by
  simp only [ab_enc, h]
theorem ab_fr_nb : ∀ κ, κ < 42 → ∀ f, f < 27 → ∀ i, i < 14 → i < ab_nb κ → (ab_fr κ f i).all (fun o => decide (o.2 < ab_nb o.1)) = true := by decide +kernel
theorem ab_nb_le (κ : Nat) (h : ab_ar κ = none) : ab_nb κ ≤ 14 := by
  unfold ab_ar at h
  unfold ab_nb
  split <;> simp_all
  split <;> omega
theorem ab_fv_ok {ad : ab_Ob → Nat} {κ f i : Nat} {S : ab_S} (hc : ab_cld ad) (ha : ab_ar κ = none) (hf : f < ab_nf κ) (hi' : i < ab_nb κ ∧ ad (κ, i) ≠ 0) : ab_okv ad (ab_fv κ f i S) := by
  have hi := hi'.1
  have h27 : ab_nf κ ≤ 27 := by unfold ab_nf; split <;> omega
  have h := ab_fr_nb κ (ab_nb_lt hi) f (by omega) i (Nat.lt_of_lt_of_le hi (ab_nb_le κ ha)) hi
  unfold ab_fv
  cases he : ab_fr κ f i with
  | none => trivial
  | some o => rw [he] at h; exact ⟨(of_decide_eq_true h : o.2 < ab_nb o.1), (hc κ i hi hi'.2).1 f (by omega) o he⟩
theorem ab_el_ok {ad : ab_Ob → Nat} {κ i n j t : Nat} (hc : ab_cld ad) (hi : i < ab_nb κ ∧ ad (κ, i) ≠ 0) (h : ab_ar κ = some (t, n)) (ht : t = 2 ∨ t = 3) (hj : j < n) : (ab_el κ j).2 < ab_nb (ab_el κ j).1 ∧ ad (ab_el κ j) ≠ 0 := by
  refine ⟨?_, (hc κ i hi.1 hi.2).2 t n j h ht hj⟩
  unfold ab_ar at h
  split at h <;> cases h <;> first | omega | (simp [ab_el, ab_nb]; omega) | (simp [ab_el, ab_nb])
/-! the world's words from one state to another -/
theorem ab_Kn.same {D : va_G} {ad : ab_Ob → Nat} {base : Nat} {cy : Nat → ClassId} {sa : Nat → Nat} {u U : State} (hv : U.vm = u.vm) (hh : U.heap = u.heap) (h : ab_Kn D ad base cy sa u) : ab_Kn D ad base cy sa U := by
  obtain ⟨h1, h2, h3, h4, h5, h6, h7, h8⟩ := h
  have al : u.vm.Alike U.vm := by rw [hv]; exact Vm.Alike.refl _
  refine ⟨va_K.moved al h1, h2, fun t ht => va_Nw.same rfl hv.symm (h3 t ht), fun t ht => vk_R.same hv (h4 t ht), ?_, ?_, fun w hw => va_Nw.same rfl hv.symm (h7 w hw), fun E hE => va_Nw.same rfl hv.symm (h8 E hE)⟩
  · rw [hh]; exact vx_Zq.moved al h5
  · rw [hh]; exact vx_Zq.moved al h6
theorem ab_Kn.warm {D : va_G} {ad : ab_Ob → Nat} {base : Nat} {cy : Nat → ClassId} {sa : Nat → Nat} {s U : State} (hW : s.WarmedH U.vm) (hk : ∀ q : Nat, q < s.heap.size → ¬ ab_A base q → U.heap[q]? = s.heap[q]?) (h : ab_Kn D ad base cy sa s) : ab_Kn D ad base cy sa U := by
  obtain ⟨h1, h2, h3, h4, h5, h6, h7, h8⟩ := h
  refine ⟨va_K.moved hW.alike h1, h2, fun t ht => va_Nw.warmM hW (h3 t ht), fun t ht => vk_R.warm hW (h4 t ht), ?_, ?_, fun w hw => va_Nw.warmD hW (h7 w hw), fun E hE => va_Nw.warmC hW (h8 E hE)⟩
  · exact vx_Zq.moved hW.alike (h5.kept hk)
  · exact vx_Zq.moved hW.alike (h6.kept hk)
theorem ab_Kn.nw {D : va_G} {ad : ab_Ob → Nat} {base : Nat} {cy : Nat → ClassId} {sa : Nat → Nat} {s : State} {args : Array Value} (h : ab_Kn D ad base cy sa s) : ∀ w ∈ ab_nw, w.before args s = true := by
  obtain ⟨-, -, -, -, -, -, h7, h8⟩ := h
  intro w hw
  rcases List.mem_append.mp hw with h | h
  · obtain ⟨y, hy, rfl⟩ := List.mem_map.mp h
    exact va_Nw.use rfl (h7 y hy)
  · obtain ⟨E, hE, rfl⟩ := List.mem_map.mp h
    exact va_Nw.use rfl (h8 E (List.mem_range.mp hE))
