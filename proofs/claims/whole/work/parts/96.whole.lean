/-! The law: its loop, its start. -/
theorem inlX5 : ∀ w ∈ wsX50, w ∈ wsL_law := fun _ h => List.mem_append_left _ (List.mem_append_left _ (List.mem_append_left _ (List.mem_append_left _ (List.mem_append_left _ (List.mem_append_left _ (List.mem_append_left _ (List.mem_append_left _ (List.mem_append_left _ (List.mem_append_left _ (List.mem_append_left _ (List.mem_append_right _ h)))))))))))
theorem inlX6 : ∀ w ∈ wsX60, w ∈ wsL_law := fun _ h => List.mem_append_left _ (List.mem_append_left _ (List.mem_append_left _ (List.mem_append_left _ (List.mem_append_left _ (List.mem_append_left _ (List.mem_append_left _ (List.mem_append_left _ (List.mem_append_left _ (List.mem_append_left _ (List.mem_append_right _ h))))))))))
theorem lw_le {L i : Nat} (hL : L ≤ 256) (hi : i ≤ 300) (h : ¬ Int32.ofNat L - 4 < nI i) : i + 4 ≤ L := by
  by_cases c : L < 4
  · exfalso
    apply h
    have h0 : Int32.ofNat L - 4 < 0 := by
      have hk : L = 0 ∨ L = 1 ∨ L = 2 ∨ L = 3 := by omega
      rcases hk with rfl | rfl | rfl | rfl <;> decide
    rw [Int32.lt_iff_toInt_lt] at h0 ⊢
    rw [nI_toInt (show i < 2 ^ 31 by omega)]
    rw [Int32.toInt_zero] at h0
    omega
  · have he : Int32.ofNat L - 4 = nI (L - 4) := by
      have := pk_sub (a := L) (b := 4) (by omega)
      exact this
    rw [he] at h
    apply Decidable.byContradiction
    intro z
    exact h (nI_lt (by omega) (by omega))
section LWL
variable {p : Program} {l : Launch} {e : Env} {s : State} {m : MethodId} {below : List Frame} {meth : Method} {c : Code} {b L : Nat} {xs : Nat → Int32} {D : va_G} {ad : ab_Ob → Nat} {cy : Nat → ClassId} {sa : Nat → Nat}
set_option maxRecDepth 20000 in
theorem law_loop (C : LC p l s m meth c b L xs D ad cy sa) : ∀ (n i : Nat), L ≤ i + 4 * n → i ≤ 260 → ∀ (H : Heap) (locs : List Loc) (ls : Array Slot) (S : ab_S) (cells slots : Nat), lv_has ls 7 (lw_lv b i ad) → va_P D vwCl (ab_wl ad cy S) H → va_S (ab_A s.heap.size) s.heap H locs → Jv S → cells + 4 * n ≤ 2000 → slots + 24 * n ≤ 12000 →
    W p l e room_1 s m #[.ref b] below meth c H locs cells slots (lw_Z below #[.ref b] s) (F0 m 23 ls []) := by
  obtain ⟨C0, hL, hlt, hKn, hwK, h00, h21, h41⟩ := id C
  obtain ⟨hx, hb, hr, hml, hown, hts0, hX, hbl, hlocks, hgv⟩ := id C0
  have hbA : ¬ ab_A s.heap.size b := fun h => by have : s.heap.size ≤ b := h; omega
  have ex : ∀ (H : Heap) (locs : List Loc) (ls : Array Slot) (cells slots : Nat), va_S (ab_A s.heap.size) s.heap H locs → cells ≤ 2000 → slots ≤ 12000 → W p l e room_1 s m #[.ref b] below meth c H locs cells slots (lw_Z below #[.ref b] s) (F0 m 1152 ls []) := by
    intro H locs ls cells slots hS h1 h2
    refine lv_iconst hx hb dL_law_1152 (v := 1) (by decide) ?_
    refine va_forget (fun q hq => hS.2.2 q hq) ?_
    exact W.widen (by omega) (by omega) (lw_ret hx hb hr hlocks dL_law_1153)
  intro n
  induction n with
  | zero =>
    intro i h1 h2 H locs ls S cells slots hl hP hS hJ hce hsl
    refine lv_iload hx hb dL_law_23 (lv_at hl 0 rfl) ?_
    refine lv_aload_n hx hb dL_law_25 rfl (lv_at hl 4 rfl) ?_
    refine va_slen hx hb hX hbl hbA hS dL_law_26 ?_
    refine lv_iconst hx hb dL_law_27 (v := 4) (by decide) ?_
    refine lv_isub hx hb dL_law_28 ?_
    refine lv_icmp_gt hx hb dL_law_29 (tgt := 1152) (by decide) (fun _ => ex H locs ls cells slots hS (by omega) (by omega)) (fun h => ?_)
    have := lw_le hL (by omega) h
    omega
  | succ n ih =>
    intro i h1 h2 H locs ls S cells slots hl hP hS hJ hce hsl
    refine lv_iload hx hb dL_law_23 (lv_at hl 0 rfl) ?_
    refine lv_aload_n hx hb dL_law_25 rfl (lv_at hl 4 rfl) ?_
    refine va_slen hx hb hX hbl hbA hS dL_law_26 ?_
    refine lv_iconst hx hb dL_law_27 (v := 4) (by decide) ?_
    refine lv_isub hx hb dL_law_28 ?_
    refine lv_icmp_gt hx hb dL_law_29 (tgt := 1152) (by decide) (fun _ => ex H locs ls cells slots hS (by omega) (by omega)) (fun h => ?_)
    have hi := lw_le hL (by omega) h
    refine lv_aload_n hx hb dL_law_32 rfl (lv_at hl 4 rfl) ?_
    refine lv_iload hx hb dL_law_33 (lv_at hl 0 rfl) ?_
    refine va_sld hx hb hX hbl hbA hS (vp_in_nI (by omega) (by omega)) dL_law_35 ?_
    refine lv_bipush hx hb dL_law_36 (v := 31) (by decide) ?_
    refine lv_iand hx hb dL_law_38 ?_
    generalize xs (nI i).toNatClampNeg &&& 31 = v
    have kk : ∀ (H1 : Heap) (locs1 : List Loc) (ls1 : Array Slot) (S1 : ab_S), lv_has ls1 7 (lw_lv b i ad) → va_P D vwCl (ab_wl ad cy S1) H1 → va_S (ab_A s.heap.size) s.heap H1 locs1 → Jv S1 → W p l e room_1 s m #[.ref b] below meth c H1 locs1 (cells + 4) (slots + 24) (lw_Z below #[.ref b] s) (F0 m 1146 ls1 []) := by
      intro H1 locs1 ls1 S1 hl1 hP1 hS1 hJ1
      refine lv_iinc hx hb dL_law_1146 hl1 (k := 0) rfl (v := nI (i + 4)) (nI_add i 4) (by decide) rfl (fun ls2 hl2 => ?_)
      refine lv_goto hx hb dL_law_1149 (tgt := 23) (by decide) ?_
      exact ih (i + 4) (by omega) (by omega) H1 locs1 ls2 S1 (cells + 4) (slots + 24) hl2 hP1 hS1 hJ1 (by omega) (by omega)
    by_cases hv : v.toInt < 0 ∨ 17 < v.toInt
    · refine lv_tableOut hx hb dL_law_39 hv (tgt := 1146) (by decide) ?_
      exact W.widen (k := cells + 4) (n := slots + 24) (by omega) (by omega) (kk H locs ls S hl hP hS hJ)
    · have hc : v.toInt = 0 ∨ v.toInt = 1 ∨ v.toInt = 2 ∨ v.toInt = 3 ∨ v.toInt = 4 ∨ v.toInt = 5 ∨ v.toInt = 6 ∨ v.toInt = 7 ∨ v.toInt = 8 ∨ v.toInt = 9 ∨ v.toInt = 10 ∨ v.toInt = 11 ∨ v.toInt = 12 ∨ v.toInt = 13 ∨ v.toInt = 14 ∨ v.toInt = 15 ∨ v.toInt = 16 ∨ v.toInt = 17 := by omega
      rcases hc with hc | hc | hc | hc | hc | hc | hc | hc | hc | hc | hc | hc | hc | hc | hc | hc | hc | hc
      · refine lv_tableIn hx hb dL_law_39 (by omega) (by omega) (off := 85) (by rw [hc]; rfl) (tgt := 124) (by decide) ?_
        exact lc_insert C (by omega) hl hP hS hJ (by omega) (by omega) kk
      · refine lv_tableIn hx hb dL_law_39 (by omega) (by omega) (off := 165) (by rw [hc]; rfl) (tgt := 204) (by decide) ?_
        exact lc_delete C (by omega) hl hP hS hJ (by omega) (by omega) kk
      · refine lv_tableIn hx hb dL_law_39 (by omega) (by omega) (off := 221) (by rw [hc]; rfl) (tgt := 260) (by decide) ?_
        exact lc_move C (by omega) hl hP hS hJ (by omega) (by omega) kk
      · refine lv_tableIn hx hb dL_law_39 (by omega) (by omega) (off := 281) (by rw [hc]; rfl) (tgt := 320) (by decide) ?_
        exact lc_relabel C (by omega) hl hP hS hJ (by omega) (by omega) kk
      · refine lv_tableIn hx hb dL_law_39 (by omega) (by omega) (off := 329) (by rw [hc]; rfl) (tgt := 368) (by decide) ?_
        exact lc_commit C (by omega) hl hP hS hJ (by omega) (by omega) kk
      · refine lv_tableIn hx hb dL_law_39 (by omega) (by omega) (off := 373) (by rw [hc]; rfl) (tgt := 412) (by decide) ?_
        exact lc_checkout C (by omega) hl hP hS hJ (by omega) (by omega) kk
      · refine lv_tableIn hx hb dL_law_39 (by omega) (by omega) (off := 409) (by rw [hc]; rfl) (tgt := 448) (by decide) ?_
        exact lc_base C (by omega) hl hP hS hJ (by omega) (by omega) kk
      · refine lv_tableIn hx hb dL_law_39 (by omega) (by omega) (off := 477) (by rw [hc]; rfl) (tgt := 516) (by decide) ?_
        exact lc_merge C (by omega) hl hP hS hJ (by omega) (by omega) kk
      · refine lv_tableIn hx hb dL_law_39 (by omega) (by omega) (off := 533) (by rw [hc]; rfl) (tgt := 572) (by decide) ?_
        exact lc_conflict C (by omega) hl hP hS hJ (by omega) (by omega) kk
      · refine lv_tableIn hx hb dL_law_39 (by omega) (by omega) (off := 589) (by rw [hc]; rfl) (tgt := 628) (by decide) ?_
        exact lc_about C (by omega) hl hP hS hJ (by omega) (by omega) kk
      · refine lv_tableIn hx hb dL_law_39 (by omega) (by omega) (off := 657) (by rw [hc]; rfl) (tgt := 696) (by decide) ?_
        exact lc_child C (by omega) hl hP hS hJ (by omega) (by omega) kk
      · refine lv_tableIn hx hb dL_law_39 (by omega) (by omega) (off := 725) (by rw [hc]; rfl) (tgt := 764) (by decide) ?_
        exact lc_nodes C (by omega) hl hP hS hJ (by omega) (by omega) kk
      · refine lv_tableIn hx hb dL_law_39 (by omega) (by omega) (off := 766) (by rw [hc]; rfl) (tgt := 805) (by decide) ?_
        exact lc_count C (by omega) hl hP hS hJ (by omega) (by omega) kk
      · refine lv_tableIn hx hb dL_law_39 (by omega) (by omega) (off := 791) (by rw [hc]; rfl) (tgt := 830) (by decide) ?_
        exact lc_find C (by omega) hl hP hS hJ (by omega) (by omega) kk
      · refine lv_tableIn hx hb dL_law_39 (by omega) (by omega) (off := 859) (by rw [hc]; rfl) (tgt := 898) (by decide) ?_
        exact lc_alike C (by omega) hl hP hS hJ (by omega) (by omega) kk
      · refine lv_tableIn hx hb dL_law_39 (by omega) (by omega) (off := 915) (by rw [hc]; rfl) (tgt := 954) (by decide) ?_
        exact lc_distance C (by omega) hl hP hS hJ (by omega) (by omega) kk
      · refine lv_tableIn hx hb dL_law_39 (by omega) (by omega) (off := 983) (by rw [hc]; rfl) (tgt := 1022) (by decide) ?_
        exact lc_state C (by omega) hl hP hS hJ (by omega) (by omega) kk
      · refine lv_tableIn hx hb dL_law_39 (by omega) (by omega) (off := 1039) (by rw [hc]; rfl) (tgt := 1078) (by decide) ?_
        exact lc_above C (by omega) hl hP hS hJ (by omega) (by omega) kk
end LWL
def cn_SA (S1 S2 : ab_S) : ab_S := fun κ => if κ < 21 then S1 κ else if κ < 41 then S2 κ else fun _ _ => 0
theorem cn_SA1 {S1 S2 : ab_S} {κ : Nat} (h : κ < 21) : cn_SA S1 S2 κ = S1 κ := if_pos h
theorem cn_SA2 {S1 S2 : ab_S} {κ : Nat} (h1 : 21 ≤ κ) (h2 : κ < 41) : cn_SA S1 S2 κ = S2 κ := by unfold cn_SA; rw [if_neg (by omega), if_pos h2]
theorem prCM_d : ∀ o ∈ ab_ids, (prC o && prMo o) = false := by decide +kernel
theorem prA_e : ∀ o ∈ ab_ids, ([((41 : Nat), (0 : Nat))].contains o || (prC o || prMo o)) = true := by decide +kernel
theorem prA_cl : cn_clb (fun _ => true) = true := by decide +kernel
set_option maxRecDepth 20000 in
/-- THE LAW, from its entry -/
theorem whole_start {p : Program} {e : Env} {s : State} {m : MethodId} {below : List Frame} {meth : Method} {c : Code} (l : Launch) (hlt : l.stackTraces = false) {b L : Nat} {xs : Nat → Int32} (hL : L ≤ 256) (C0 : lw_At p s m meth c b L xs) : W p l e room_1 s m #[Value.ref b] below meth c s.heap [] 0 0 (lw_Z below #[Value.ref b] s) (entryFrame m ([Value.ref b] : List Value).toArray 7) := by
  obtain ⟨hx, hb, hr, hml, hown, hts0, hX, hbl, hlocks, hgv⟩ := id C0
  obtain ⟨D, cy, sa, hK, hwK⟩ := lw_known hts0 hgv
  have hts : ∀ w ∈ wsL_law, w.before #[Value.ref b] s = true := fun w h => hts0 w (wsL_law_in w h)
  have hb0 : 0 < s.heap.size := by omega
  have hS : va_S (ab_A s.heap.size) s.heap s.heap [] := va_S.rf
  have hP : va_P D vwCl [] s.heap := fun k q h => by simp at h
  have hD : va_D (ab_A s.heap.size) [] := ⟨fun i j p q h => by simp at h, fun k q h => by simp at h⟩
  have hl := lv_entry ([.ref b]) (n := 7) (Nat.le_of_ble_eq_true rfl)
  rw [lg_entry_eq]
  generalize (lg_sl ([.ref b]) ++ List.replicate (7 - (lg_sl ([.ref b])).length) Slot.unset).toArray = ls at hl ⊢
  have hl : lv_has ls 7 [(0, .ref b)] := hl
  refine cn_new (R := room_1) (own := RL) hx hb hml hown hts hK hb0 (Nat.le_refl _) (cs_X5 l) (C := RX5) (T := TX5) (N := 7) rfl tyX5 tyX5_ok (by decide) inlX5 (by decide +kernel) (by decide +kernel) (by decide +kernel) rfl gL_law_X5_init rfl (ic := 74) (by decide +kernel) (by decide +kernel) rfl ⟨by decide +kernel, by decide +kernel, by decide +kernel⟩ (by decide) hl.1 (Nat.le_of_ble_eq_true rfl) dL_law_0 dL_law_3 dL_law_4 (by decide) (by decide) hP hD hS (fun q1 ad1 S1 H1 locs1 hq1 hro1 hpr1 hJC hP1 hD1 hS1 => ?_)
  refine lv_astore_n hx hb dL_law_7 rfl hl (by decide) rfl (fun ls1 hl1 => ?_)
  have hl1 : lv_has ls1 7 [(1, .ref q1), (0, .ref b)] := hl1
  refine cn_new (R := room_1) (own := RL) hx hb hml hown hts hK hb0 (Nat.le_refl _) (cs_X6 l) (C := RX6) (T := TX6) (N := 27) rfl tyX6 tyX6_ok (by decide) inlX6 (by decide +kernel) (by decide +kernel) (by decide +kernel) rfl gL_law_X6_init rfl (ic := 77) (by decide +kernel) (by decide +kernel) rfl ⟨by decide +kernel, by decide +kernel, by decide +kernel⟩ (by decide) hl1.1 (Nat.le_of_ble_eq_true rfl) dL_law_8 dL_law_11 dL_law_12 (by decide) (by decide) hP1 hD1 hS1 (fun q2 ad2 S2 H2 locs2 hq2 hro2 hpr2 hJM hP2 hD2 hS2 => ?_)
  refine lv_astore_n hx hb dL_law_15 rfl hl1 (by decide) rfl (fun ls2 hl2 => ?_)
  have hl2 : lv_has ls2 7 [(2, .ref q2), (1, .ref q1), (0, .ref b)] := hl2
  refine lv_iconst hx hb dL_law_16 (v := 1) (by decide) ?_
  refine cn_newa (R := room_1) hx hb hts hK (Nat.le_refl _) 4 (ty := .long) rfl rfl (by decide +kernel) hP2 hD2 hS2 (N' := 1) (1, .inr (.inl (fun _ => 0))) (fun cA => rfl) (by decide) (by decide) (by decide) (by decide) (by decide) dL_law_17 (fun q3 H3 hq3 hP3 hD3 hS3 => ?_)
  refine lv_astore_n hx hb dL_law_19 rfl hl2 (by decide) rfl (fun ls3 hl3 => ?_)
  refine lv_iconst hx hb dL_law_20 (v := nI 0) (by decide) ?_
  refine lv_istore hx hb dL_law_21 hl3 (by decide) rfl (fun ls4 hl4 => ?_)
  have hl4 : lv_has ls4 7 [(4, .int (nI 0)), (3, .ref q3), (2, .ref q2), (1, .ref q1), (0, .ref b)] := hl4
  generalize hx3 : ((q3, .inl (cy 4, 1, .inr (.inl (fun _ => 0)))) : Nat × va_E) = x3 at hP3 hD3
  have hperm : ([x3] ++ (ab_wl ad1 cy S1 ++ ab_wl ad2 cy S2)).Perm ([] ++ ab_wl ad1 cy S1 ++ ab_wl ad2 cy S2 ++ [x3]) := List.perm_append_comm
  obtain ⟨hP4, hD4⟩ := cn_join (hpr1.cld prC_cl) (hpr2.cld prMo_cl) (cn_dis hpr1 hpr2 prCM_d) (S := cn_SA S1 S2) (fun o ho h j _ => by
      have := (hpr1 o ho).mp h
      simp only [prC, decide_eq_true_eq] at this
      rw [cn_SA1 (by omega)]) (fun o ho h j _ => by
      have := (hpr2 o ho).mp h
      simp only [prMo, Bool.and_eq_true, decide_eq_true_eq] at this
      rw [cn_SA2 (by omega) (by omega)]) (cn_Pto hP3 (fun x hx => hperm.mem_iff.mp hx)) (cn_Dp hD3 hperm)
  have hpr := hpr1.or hpr2
  have f1 : cn_or ad1 ad2 (0, 0) = q1 := (cn_or1 (by rw [hro1]; omega)).trans hro1
  have f2 : cn_or ad1 ad2 (21, 0) = q2 := (cn_or2 (hpr1.no (cn_ids.mpr (by decide)) (by decide))).trans hro2
  generalize cn_or ad1 ad2 = ad at *
  generalize hLl : ([((41, 0), q3)] : List (ab_Ob × Nat)) = Ll
  have hL2 : ∀ p, p ∈ Ll → p.2 ≠ 0 := by
    intro p hp
    rw [← hLl] at hp
    simp only [List.mem_cons, List.not_mem_nil, or_false] at hp
    subst hp; simp only; omega
  have hL3 : ∀ p, p ∈ Ll → ad p.1 = 0 := by
    intro p hp
    rw [← hLl] at hp
    simp only [List.mem_cons, List.not_mem_nil, or_false] at hp
    subst hp
    exact hpr.no (o := (41, 0)) (cn_ids.mpr (by decide)) (by decide)
  have hprA : cn_pr (cn_ad Ll ad) (fun _ => true) := (hpr.ext hL2).to (fun o ho => by rw [← hLl]; exact prA_e o ho)
  have r0 : cn_ad Ll ad (0, 0) = q1 := by rw [← hLl]; exact f1
  have r21 : cn_ad Ll ad (21, 0) = q2 := by rw [← hLl]; exact f2
  have r41 : cn_ad Ll ad (41, 0) = q3 := by rw [← hLl]; rfl
  have hPm := cn_Piff.mp hP4
  have hat2 : ∀ p, p ∈ Ll → va_at D vwCl (p.2, ab_enc (cn_ad Ll ad) cy (cn_SA S1 S2) p.1) H3 := by
    intro p hp
    rw [← hLl] at hp
    simp only [List.mem_cons, List.not_mem_nil, or_false] at hp
    subst hp
    have h9 := hPm x3 (List.mem_append_left _ List.mem_cons_self)
    rw [← hx3] at h9
    exact h9
  obtain ⟨hP5, hD5⟩ := cn_ext (L := Ll) (ad1 := ad) (S1 := cn_SA S1 S2) (S := cn_SA S1 S2) (ws := [x3]) (hpr.cld (by decide +kernel)) hL3 (fun _ _ _ _ _ => rfl) (by rw [← hLl, ← hx3]; rfl) hat2 hP4 hD4
  have hJ : Jv (cn_SA S1 S2) := ⟨g0, g0_ok, hJC.congr (fun a h => cn_SA1 h), hJM.congr (fun a h1 h2 => cn_SA2 h1 (by omega))⟩
  have hKn := hK.kn hD5 (hprA.cld prA_cl)
  generalize cn_ad Ll ad = ax at *
  have C : LC p l s m meth c b L xs D ax cy sa := ⟨C0, hL, hlt, hKn, hwK, ⟨by decide, by rw [r0]; omega⟩, ⟨by decide, by rw [r21]; omega⟩, ⟨by decide, by rw [r41]; omega⟩⟩
  refine law_loop C 65 0 (by omega) (by omega) H3 locs2 ls4 (cn_SA S1 S2) _ _ ?_ hP5 hS3 hJ (by decide) (by decide)
  unfold lw_lv
  rw [r0, r21, r41]
  exact hl4
set_option maxHeartbeats 4000000 in
theorem lw_walk (l : Launch) (hlt : l.stackTraces = false) (b : Addr) (xs : List Int32) : MetFree l x (headSpec (Jvm.Cond.code x code maxLocals ret :: tables_1) room_1) (lw_P b xs) (fun _ _ _ _ _ => True) lw_Q := by
  refine MetFree.of_bodyS (code := code) (maxLocals := maxLocals) (ret := ret) (by decide) ?_ ?_
  · intro args s m h hn
    obtain ⟨meth, c, h1, h2, h3, h4, h5, h6, -, -⟩ := Cond.code_spec hn (atoms_spec (ws := Jvm.Cond.code x code maxLocals ret :: tables_1) h _ List.mem_cons_self)
    exact ⟨meth, c, h1, h2, h3, h4, h5, h6⟩
  · intro p e s m args below meth c s₁ B hml0 hP _
    obtain ⟨rfl, hx, hbd, hgv⟩ := hP
    obtain ⟨scr, harrAt, hlist, hof, hsmall⟩ := hx
    obtain ⟨hcb, hkn, -, -⟩ := State.arrayAt?_spec harrAt
    have hown : s.vm.findClass R_law = some m.cls := findClass_of_methodNamed B.named
    have hts0 : ∀ c ∈ (Jvm.Cond.code x code maxLocals ret :: tables_1), c.before #[Value.ref b] s = true := atoms_spec (ws := Jvm.Cond.code x code maxLocals ret :: tables_1) B.pre
    have hts : ∀ w ∈ lw_tbl, w.before #[Value.ref b] s = true := k2_hts_sels lw_privs (fun w hw => hts0 w (List.mem_cons_of_mem _ hw)) lw_privs_ok
    have hml : c.maxLocals = 7 := B.maxLocals_eq (hts0 _ List.mem_cons_self)
    have X₀ : Stand p l e room_1 s m #[Value.ref b] below meth c s₁ [] 0 0 := Stand.of_body B
    have hh0 : s₁.heap = s.heap := by rw [B.state]; rfl
    have hsz : scr.slots.size = xs.length := by rw [← Array.length_toList, hlist, List.length_map]
    have hval : ∀ j : Nat, j < xs.length → scr.slots[j]? = some (.int (xs.getD j 0)) := fun j hj => by
      rw [← Array.getElem?_toList, hlist]
      simp [hj]
    have hbl : b < s.heap.size := (Array.getElem?_eq_some_iff.mp hcb).1
    have hX : va_X b xs.length (fun j => xs.getD j 0) s s.heap := ⟨scr, hcb, hof, hkn, hsz, hval⟩
    have K : W p l e room_1 s m #[Value.ref b] below meth c s₁.heap [] 0 0 (lw_Z below #[Value.ref b] s) (entryFrame m ([Value.ref b] : List Value).toArray 7) := by
      rw [hh0]
      exact whole_start l hlt hbd ⟨B.exec, B.bytes, B.returns, hml, hown, hts, hX, hbl, B.notSynchronized, hgv⟩
    obtain ⟨t, a1, o, b1, b2, b3⟩ := K s₁ rfl X₀
    exact ⟨t, o, a1, b1, b2, b3⟩
theorem lw_pre_spec {args : Array Value} {s : State} (h : (Jvm.Cond.and given_1 narrow_1).before args s = true) (hr : rest_1_c.before args s = true) : ∃ (b : Addr) (xs : List Int32), lw_P b xs args s := by
  have hs := flat_of_before _ h
  have hq := flat_of_before _ hr
  have hc : (Cond.count 1).before args s = true := hs _ (by decide +kernel)
  have harr : (Cond.arrayOf (.arg 0) .int).before args s = true := hs _ (by decide +kernel)
  have hle : (Cond.le (.length (.arg 0)) (.int 256)).before args s = true := hs _ (by decide +kernel)
  have hlen : (Cond.isInt (.length (.arg 0))).before args s = true := hq _ (by decide +kernel)
  have hall : (Cond.all (.arg 0) (.isInt (.elem (.arg 0) (.index 0)))).before args s = true := hq _ (by decide +kernel)
  obtain ⟨b, xs, hb, hx⟩ := State.ints_of_pre rfl harr hlen hall
  have hsm : xs.length < 2 ^ 31 := hx.choose_spec.2.2.2
  have hev : (Term.length (.arg 0)).eval args s none [] s = some (.int xs.length.toInt32) := hx.length_eval hb
  have hv := Cond.le_ints hev (show (Term.int 256).eval args s none [] s = some (.int 256) from rfl)
  have hd : xs.length.toInt32 ≤ 256 := by
    simpa [Cond.before, Cond.holds, hv] using hle
  have hN : xs.length ≤ 256 := (Int32.ofNat_le_ofNat hsm (by decide)).mp (show Int32.ofNat xs.length ≤ Int32.ofNat 256 from hd)
  exact ⟨b, xs, Cond.one_arg hc (show args[0]? = some (.ref b) from hb), hx, hN, h⟩
theorem lw_comes (l : Launch) (hlt : l.stackTraces = false) : Comes l x (Jvm.Cond.code x code maxLocals ret :: tables_1) room_1 (fun tb e args s => Calls_1 tb e args s ∧ rest_1 tb e args s ∧ Pre_1 tb e args s)
    (fun _ _ args s o t => lw_Q args s o t) := by
  intro p e ha hc hk s m args below hf hfit hheap happ hpre
  obtain ⟨b, xs, hP⟩ := lw_pre_spec hpre.2.2 hpre.2.1
  obtain ⟨k, o, h1, h2, h3, hQ⟩ := lw_walk l hlt b xs p e ha hc hk s m args below hf ((Spec.applies_iff_loose hf).mp happ).1 hP trivial
  exact ⟨k, o, h1, h2, h3, hQ⟩
theorem lw_frame {s t : State} {o : Outcome} {args : Array Value} (h : Framed s o t [] 600128 7301098) :
    Framed s o t (fieldLocs frame_1_writes args s ++ arrayLocs frame_1_arrays args s ++ staticLocs frame_1_statics s) 600128 7301098 := h
theorem lw_limb (L : Cond) (hL : ∀ (args : Array Value) (s t : State), L.after args s (.returned (some (.int 1))) t = true) :
    ArmFor flags0 classFile x code maxLocals ret World_1 tables_1 room_1 Calls_1 rest_1 Pre_1
      (fun tb e a s o t => postC L tb e a s o t ∧ Framed s o t (fieldLocs frame_1_writes a s ++ arrayLocs frame_1_arrays a s ++ staticLocs frame_1_statics s) 600128 7301098) := by
  intro l hfl _ _ p e ha hc hk s m args below hf hfit hheap happ hpre
  have hlt : l.stackTraces = false := by unfold Launch.stackTraces; rw [hfl]; decide
  obtain ⟨k, o, h1, h2, h3, rfl, hF⟩ := lw_comes l hlt p e ha hc hk s m args below hf hfit hheap happ hpre
  exact ⟨k, _, h1, h2, h3, hL args s _, lw_frame hF⟩
theorem i_vc : Claimed_1_1 ∧ Claimed_1_2 := ⟨lw_limb limb_1_1 (fun args s t => by simp [limb_1_1, Cond.after, Cond.holds, Cond.value]), lw_limb limb_1_2 (fun args s t => Cond.after_iff.mpr (by
  first | (rw [show limb_1_2 = Cond.eq .result (.int 1) from rfl, Cond.eq_ints (x := 1) (y := 1) rfl rfl]; simp; done) | (simp [limb_1_2, Cond.value, Term.eval]; done)))⟩
