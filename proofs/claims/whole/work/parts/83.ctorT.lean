/-! The constructor of Tree. -/
/-- all rows are 0 -/
def cn_Z : ab_S := fun _ _ _ => 0
/-- the class's rows as its constructors leave them -/
def cn_S0 : ab_S := fun κ _ _ => if κ = 7 ∨ κ = 8 then -2 else 0
def prT (i : Nat) : ab_Ob → Bool := fun o => decide (4 ≤ o.1) && decide (o.1 ≤ 9) && decide (o.2 = i)
theorem prT_cl : ∀ i, i < 14 → cn_clb (prT i) = true := by decide +kernel
theorem sp_clear2 {Q : ab_Po} {S : ab_S} {t : Nat} (hQ : ∀ S', (∀ a b, (a ≠ 4 ∧ a ≠ 7 ∧ a ≠ 8) → S' a b = S a b) → (∀ j, j ≠ 4 → S' 4 t j = S 4 t j) → S' 4 t 4 = 0 → (∀ j, j < 24 → S' 7 t j = -2 ∧ S' 8 t j = -2) → Q (.inl none) S') : Sp_X4_clear [.inr (4, t)] S Q := by
  refine ⟨Nat.le_of_ble_eq_true rfl, fun G hG => ?_⟩
  refine bl_X4_clear_0 hG t S (sp_fill7 (fun S1 a1 a2 => ?_))
  refine bl_X4_clear_9 hG t S1 (sp_fill8 (fun S2 b1 b2 => ?_))
  refine bl_X4_clear_18 hG t S2 (fun S3 e3 => ?_)
  refine hQ S3 (fun a b z => ?_) (fun j hj => ?_) (by rw [e3, su_at]) (fun j hj => ⟨?_, ?_⟩)
  · rw [e3, su_o (by omega), b1 a b (by omega), a1 a b (by omega)]
  · rw [e3, su_j hj, b1 4 t (by omega), a1 4 t (by omega)]
  · rw [e3, su_o (Or.inl (by decide)), b1 7 t (Or.inl (by decide)), a2 j hj]
  · rw [e3, su_o (Or.inl (by decide)), b2 j hj]
def rm_X4_init : Room := { frames := 3, cells := 20, slots := 120, locals := 44 }
def M_X4_init : ab_M := (cX4_init, [], [], (fun i => if i = 27 then some (3, 0, 0, 0, Sp_X4_clear) else none), (fun i => none), (fun i => none), [], [], (fun i => none), [], 0, 20)
set_option maxRecDepth 20000 in
theorem ok_X4_init (l : Launch) : ab_Ok l RX4 wsX4_init rm_X4_init 0 M_X4_init := by
  refine ⟨?_, ?_, ?_, ?_, ?_, ?_, ?_, ?_, ?_, ?_, ?_, ?_, ?_⟩
  · exact by decide
  · exact Or.inl rfl
  · exact by unfold ab_flok; decide +kernel
  · exact by unfold ab_plok ab_flok; decide +kernel
  · exact by decide +kernel
  · exact by
      intro idx rc n ri kc τ h
      simp only [M_X4_init, ab_cv, ab_cs, ab_cn] at h
      split at h
      · rename_i hi; subst hi; cases h; exact ⟨yX4_clear, cX4_clear, 1, _, wsX4_clear, _, rm_X4_clear, (so_X4_clear l), gX4_init_X4_clear, rfl, rfl, rfl, rfl, ⟨by decide +kernel, by decide +kernel, by decide +kernel⟩, by decide⟩
      cases h
  · exact fun _ _ _ _ _ _ h => ab_no h
  · exact fun _ _ _ _ _ _ h => ab_no h
  · exact by decide +kernel
  · exact by decide +kernel
  · exact fun _ _ h => ab_no h
  · exact by decide
  · exact by decide
def fsT : List Value := [.null, .null, .null, .null, .int 0, .null]
def kT (i a q0 q1 q2 q3 q4 : Nat) : List (ab_Ob × Nat) := [((4, i), a), ((5, i), q0), ((6, i), q1), ((7, i), q2), ((8, i), q3), ((9, i), q4)]
theorem kT_pr {i a q0 q1 q2 q3 q4 : Nat} : ∀ o, o ∈ ab_ids → (((kT i a q0 q1 q2 q3 q4).map Prod.fst).contains o || false) = prT i o := by
  intro o _
  obtain ⟨κ, j⟩ := o
  simp only [kT, prT, List.map_cons, List.map_nil, Bool.or_false]
  rw [Bool.eq_iff_iff]
  simp only [List.contains_iff_mem, List.mem_cons, List.not_mem_nil, or_false, Bool.and_eq_true, decide_eq_true_eq, Prod.mk.injEq]
  omega
set_option maxRecDepth 20000 in
theorem cs_X4 (l : Launch) (i : Nat) (hi : i < 14) : cn_Sound l yX4_init wsX4_init rm_X4_init 3 fsT (4, i) (prT i) (fun S => S = cn_S0) := by
  intro D a cy sa
  refine ab_ofx (XC := fun _ _ _ => False) (vx_ofW (cc := cX4_init) (maxL := 1) (ret := none) (by decide) rfl ?_) (fun _ _ _ h => h)
  intro p e s m args below meth c s₁ B hml hout hv
  obtain ⟨rfl, ha0, hat, hK⟩ := hv
  have hx := B.exec
  have hb := B.bytes
  have hr := B.returns
  have hts := atoms_spec (ws := wsX4_init) B.pre
  have hown : s.vm.findClass RX4 = some m.cls := findClass_of_methodNamed B.named
  have hlocks := B.notSynchronized
  have hin0 : meth.name = "<init>" := (name_of_methodNamed B.named B.method).1
  have hlt : a < s.heap.size := hat.lt
  have hbs : a ≤ s.heap.size := Nat.le_of_lt hlt
  have hS : va_S (ab_A a) s.heap s.heap [] := va_S.rf
  have hl := lv_entry ([.ref a]) (n := 1) (Nat.le_of_ble_eq_true rfl)
  rw [lg_entry_eq]
  generalize (lg_sl ([.ref a]) ++ List.replicate (1 - (lg_sl ([.ref a])).length) Slot.unset).toArray = ls at hl ⊢
  have hl : lv_has ls 1 [(0, .ref a)] := hl
  refine lv_aload_n hx hb dX4_init_0 rfl (lv_at hl 0 rfl) ?_
  refine W.objInit hx hb hown (hts (.methodLink RX4 3 objectInit) (by decide +kernel)) (hts (.instanceMethod objectInit) (by decide +kernel)) (hts _ (List.mem_of_getElem? (i := 3) rfl)) rfl (by rw [hml]; exact hl.1) rfl dX4_init_1 (Nat.le_of_ble_eq_true rfl) (Nat.le_of_ble_eq_true rfl) ?_
  refine W.eq (g2 := F0 m 4 ls []) rfl ?_
  have hP : va_P D vwCl ((a, .inr (3, fsT)) :: []) s.heap := cn_Piff.mpr fun q hq => by
    rcases List.mem_cons.mp hq with h | h
    · subst h; exact hat
    · cases h
  have hD : va_D (ab_A a) (((a, .inr (3, fsT)) : Nat × va_E) :: []) := cn_Diff.mpr ⟨by simp, fun q hq => by
    rcases List.mem_cons.mp hq with h | h
    · subst h; exact Nat.le_refl a
    · cases h⟩
  have hc : vwCl[3]? = some (RX4, TX4, 6) := rfl
  have hin : ∀ w ∈ u_ws RX4 TX4 6, w ∈ wsX4_init := fun w h => List.mem_cons_of_mem _ (List.mem_append_right _ h)
  refine lv_aload_n hx hb dX4_init_4 rfl (lv_at hl 0 rfl) ?_
  refine lv_bipush hx hb dX4_init_5 (v := 24) (by decide) ?_
  refine cn_arr hx hb hown hts hK hbs hin0 hP hD hS hc hin tyX4 tyX4_ok nmX4 (aty := .int) 0 rfl rfl (by decide +kernel) rfl (N' := 24) (by decide) (by decide) (by decide) (by decide) (by decide) dX4_init_7 0 (by decide) (Nat.le_of_ble_eq_true rfl) (by decide +kernel) (by decide) (fun q => ⟨rfl, rfl⟩) dX4_init_9 (fun q0 H1 locs1 hq0 hP1 hD1 hS1 => ?_)
  refine lv_aload_n hx hb dX4_init_12 rfl (lv_at hl 0 rfl) ?_
  refine lv_bipush hx hb dX4_init_13 (v := 24) (by decide) ?_
  refine cn_arr hx hb hown hts hK hbs hin0 hP1 hD1 hS1 hc hin tyX4 tyX4_ok nmX4 (aty := .int) 0 rfl rfl (by decide +kernel) rfl (N' := 24) (by decide) (by decide) (by decide) (by decide) (by decide) dX4_init_15 1 (by decide) (Nat.le_of_ble_eq_true rfl) (by decide +kernel) (by decide) (fun q => ⟨rfl, rfl⟩) dX4_init_17 (fun q1 H2 locs2 hq1 hP2 hD2 hS2 => ?_)
  refine lv_aload_n hx hb dX4_init_20 rfl (lv_at hl 0 rfl) ?_
  refine lv_bipush hx hb dX4_init_21 (v := 24) (by decide) ?_
  refine cn_arr hx hb hown hts hK hbs hin0 hP2 hD2 hS2 hc hin tyX4 tyX4_ok nmX4 (aty := .int) 0 rfl rfl (by decide +kernel) rfl (N' := 24) (by decide) (by decide) (by decide) (by decide) (by decide) dX4_init_23 2 (by decide) (Nat.le_of_ble_eq_true rfl) (by decide +kernel) (by decide) (fun q => ⟨rfl, rfl⟩) dX4_init_25 (fun q2 H3 locs3 hq2 hP3 hD3 hS3 => ?_)
  refine lv_aload_n hx hb dX4_init_28 rfl (lv_at hl 0 rfl) ?_
  refine lv_bipush hx hb dX4_init_29 (v := 24) (by decide) ?_
  refine cn_arr hx hb hown hts hK hbs hin0 hP3 hD3 hS3 hc hin tyX4 tyX4_ok nmX4 (aty := .int) 0 rfl rfl (by decide +kernel) rfl (N' := 24) (by decide) (by decide) (by decide) (by decide) (by decide) dX4_init_31 3 (by decide) (Nat.le_of_ble_eq_true rfl) (by decide +kernel) (by decide) (fun q => ⟨rfl, rfl⟩) dX4_init_33 (fun q3 H4 locs4 hq3 hP4 hD4 hS4 => ?_)
  refine lv_aload_n hx hb dX4_init_36 rfl (lv_at hl 0 rfl) ?_
  refine lv_bipush hx hb dX4_init_37 (v := 24) (by decide) ?_
  refine cn_arr hx hb hown hts hK hbs hin0 hP4 hD4 hS4 hc hin tyX4 tyX4_ok nmX4 (aty := .int) 0 rfl rfl (by decide +kernel) rfl (N' := 24) (by decide) (by decide) (by decide) (by decide) (by decide) dX4_init_39 5 (by decide) (Nat.le_of_ble_eq_true rfl) (by decide +kernel) (by decide) (fun q => ⟨rfl, rfl⟩) dX4_init_41 (fun q4 H5 locs5 hq4 hP5 hD5 hS5 => ?_)
  generalize hL : kT i a q0 q1 q2 q3 q4 = L
  have hL2 : ∀ p, p ∈ L → p.2 ≠ 0 := by
    intro p hp
    rw [← hL] at hp
    simp only [kT, List.mem_cons, List.not_mem_nil, or_false] at hp
    rcases hp with rfl | rfl | rfl | rfl | rfl | rfl <;> simp only <;> omega
  have hpr : cn_pr (cn_ad L (fun _ => 0)) (prT i) := (cn_pr.none.ext hL2).to (fun o ho => by rw [← hL]; exact kT_pr o ho)
  have hcd0 : ab_cld (fun _ => 0) := fun _ _ _ h => absurd rfl h
  have hnil : ab_wl (fun _ => 0) cy cn_Z = [] := cn_nil (D := D)
  have r4 : cn_ad L (fun _ => 0) (4, i) = a := by rw [← hL]; simp [kT, cn_ad]
  have r5 : cn_ad L (fun _ => 0) (5, i) = q0 := by rw [← hL]; simp [kT, cn_ad]
  have r6 : cn_ad L (fun _ => 0) (6, i) = q1 := by rw [← hL]; simp [kT, cn_ad]
  have r7 : cn_ad L (fun _ => 0) (7, i) = q2 := by rw [← hL]; simp [kT, cn_ad]
  have r8 : cn_ad L (fun _ => 0) (8, i) = q3 := by rw [← hL]; simp [kT, cn_ad]
  have r9 : cn_ad L (fun _ => 0) (9, i) = q4 := by rw [← hL]; simp [kT, cn_ad]
  have hPm := cn_Piff.mp hP5
  have hat2 : ∀ p, p ∈ L → va_at D vwCl (p.2, ab_enc (cn_ad L (fun _ => 0)) cy cn_Z p.1) H5 := by
    intro p hp
    rw [← hL] at hp
    simp only [kT, List.mem_cons, List.not_mem_nil, or_false] at hp
    rcases hp with rfl | rfl | rfl | rfl | rfl | rfl
    · have he : ab_enc (cn_ad L (fun _ => 0)) cy cn_Z (4, i) = .inr (3, [.ref q0, .ref q1, .ref q2, .ref q3, .int 0, .ref q4]) := by
        rw [ab_enc_obj rfl, ← r5, ← r6, ← r7, ← r8, ← r9]; rfl
      show va_at D vwCl (a, ab_enc (cn_ad L (fun _ => 0)) cy cn_Z (4, i)) H5
      rw [he]
      exact hPm _ List.mem_cons_self
    · exact hPm _ (List.mem_of_getElem? (i := 1) rfl)
    · exact hPm _ (List.mem_of_getElem? (i := 2) rfl)
    · exact hPm _ (List.mem_of_getElem? (i := 3) rfl)
    · exact hPm _ (List.mem_of_getElem? (i := 4) rfl)
    · exact hPm _ (List.mem_of_getElem? (i := 5) rfl)
  obtain ⟨hP6, hD6⟩ := cn_ext (L := L) (ws := (a, .inr (3, [.ref q0, .ref q1, .ref q2, .ref q3, .int 0, .ref q4])) :: [q0, q1, q2, q3, q4].map fun q => (q, .inl (cy 0, 24, .inl (fun _ => 0)))) (ad1 := fun _ => 0) (S1 := cn_Z) (S := cn_Z) hcd0 (fun _ _ => rfl) (fun _ _ _ _ _ => rfl) (by rw [← hL]; rfl) hat2 (by rw [hnil, List.append_nil]; exact hP5) (by rw [hnil, List.append_nil]; exact hD5)
  refine cn_tail (M := M_X4_init) (Qt := fun o S' => o = .inl none ∧ ∀ j, j < 27 → S' 4 i j = 0 ∧ (j < 24 → S' 5 i j = 0 ∧ S' 6 i j = 0 ∧ S' 7 i j = -2 ∧ S' 8 i j = -2 ∧ S' 9 i j = 0)) (ok_X4_init l) hx hb hml hr rfl hown hts hK hbs hout hlocks r4 ha0 (cn_ids.mpr hi) hpr (prT_cl i hi) hP6 hD6 hS5 hl (fun E S' h => by cases h.1) (fun S' h => ⟨cn_S0, rfl, ?_⟩) (by decide) (by decide) ?_
  · intro o ho hp
    have hp' := (hpr o ho).mp hp
    obtain ⟨κ, j0⟩ := o
    simp only [prT, Bool.and_eq_true, decide_eq_true_eq] at hp'
    obtain ⟨⟨h4, h9⟩, rfl⟩ := hp'
    have h2 := h.2
    simp only
    intro j hj
    have hk : κ = 4 ∨ κ = 5 ∨ κ = 6 ∨ κ = 7 ∨ κ = 8 ∨ κ = 9 := by omega
    rcases hk with rfl | rfl | rfl | rfl | rfl | rfl <;> simp [cn_sz, ab_ar] at hj <;> simp only [cn_S0]
    · rw [(h2 j (by omega)).1]; rfl
    · rw [((h2 j (by omega)).2 hj).1]; rfl
    · rw [((h2 j (by omega)).2 hj).2.1]; rfl
    · rw [((h2 j (by omega)).2 hj).2.2.1]; rfl
    · rw [((h2 j (by omega)).2 hj).2.2.2.1]; rfl
    · rw [((h2 j (by omega)).2 hj).2.2.2.2]; rfl
  · intro G hG
    refine ab_aload_n' hG 44 _ [] _ _ 0 (4, i) dX4_init_44 rfl ?_
    refine ab_invv' hG 45 _ [] [] _ _ 27 3 0 0 0 _ (4, i) dX4_init_45 rfl rfl rfl rfl (by decide) (by decide) ?_
    refine sp_clear2 (fun S' h1 h2 h3 h4 => ?_)
    refine ab_return_' hG 48 _ S' _ dX4_init_48 rfl (by decide) ⟨rfl, fun j hj => ⟨?_, fun hj2 => ⟨by rw [h1 5 i (by omega)]; rfl, by rw [h1 6 i (by omega)]; rfl, (h4 j hj2).1, (h4 j hj2).2, by rw [h1 9 i (by omega)]; rfl⟩⟩⟩
    by_cases z : j = 4
    · subst z; exact h3
    · rw [h2 j z]; rfl
