/-! The constructor of GroveMerge: the invariant's first state. -/
def d0 : sD := (1, fun _ => 0, fun _ => 0, fun _ => 0)
def g0 : gD := (1, 1, 0, -1, d0, fun _ => d0, fun _ => -1, fun _ => -1, fun _ => 1, 0, fun _ => 0)
theorem d0_ok : Okd 1 d0 := by
  refine ⟨⟨by decide, by decide, rfl, fun _ _ => (by decide : 0 < 24), fun i j h1 h2 _ => ?_, ?_⟩, fun _ _ => ⟨(by decide : 0 < 1), 0, by decide, rfl⟩⟩
  · have a : i < 1 := h1
    have b : j < 1 := h2
    omega
  · refine ⟨fun i h1 h2 => ?_, fun i j h1 h2 h3 => ?_⟩
    · have b : i < 1 := h2
      omega
    · have b : j < 1 := h3
      omega
theorem g0_ok : JD g0 := by
  refine ⟨by decide, by decide, by decide, Or.inl rfl, d0_ok, fun c hc => ⟨d0_ok, ?_, ?_, ?_⟩, by decide⟩
  · show bi 1 0; unfold bi; decide
  · have h : c < 1 := hc
    rw [show c = 0 by omega]; show bi 1 0; unfold bi; decide
  · have h : c < 1 := hc
    have key : ∀ j, j < 12 → 0 < j → ¬ bi 1 j := by unfold bi; decide
    intro j h1 h2
    exact key j h2 (by omega)
theorem sp_plant0 {Q : ab_Po} {S : ab_S} (h4 : S 4 0 4 = 0) (h78 : ∀ j, j < 24 → S 7 0 j = -2 ∧ S 8 0 j = -2) (hQ : ∀ S', Off S S' 0 → CTd S' 0 d0 → Q (.inl none) S') : Sp_X4_plant [.inr (4, 0), .inl 0, .inl 0] S Q := by
  refine ⟨Nat.le_of_ble_eq_true rfl, fun G hG => ?_⟩
  refine bl_X4_plant_0 hG 0 0 0 S ⟨pk_in 0 24 (by omega), fun S1 e1 => ⟨pk_in 0 24 (by omega), fun S2 e2 => ?_⟩⟩
  rw [sb_cl0] at e1 e2
  have hR : Rw S2 0 0 (fun _ => 0) := ⟨by rw [e2, su_o (by omega), e1, su_o (by omega)]; exact h4, by omega, fun i hi => by omega⟩
  refine sp_putInto (sl := 0) (v := 0) hR (by omega) (by omega) (by omega) (fun i hi => by omega) (fun S3 o3 r3 => ?_)
  refine bl_X4_plant_20 hG 0 0 0 S3 ?_
  have a7 : ∀ j, S3 7 0 j = S2 7 0 j := fun j => by rw [o3 7 0 (by omega)]
  have a8 : ∀ j, S3 8 0 j = S2 8 0 j := fun j => by rw [o3 8 0 (by omega)]
  have b7 : S2 7 0 0 = -1 := by rw [e2, su_o (by omega), e1, su_at]
  have b8 : S2 8 0 0 = 0 := by rw [e2, su_at]
  refine hQ S3 (fun a b z => ?_) ⟨⟨r3.1, fun i hi => ?_, (a7 0).trans b7, fun i h1 h2 => ?_⟩, fun v hv hno => ?_⟩
  · rw [o3 a b (by omega), e2, su_o (by omega), e1, su_o (by omega)]
  · have h : i < 1 := hi
    have hz : i = 0 := by omega
    subst hz
    obtain ⟨-, x2, x3⟩ := r3.2.2 0 (by omega)
    exact ⟨x2, x3, (a8 0).trans b8⟩
  · have h : i < 1 := h2
    omega
  · have hv0 : v ≠ 0 := fun e => hno 0 (by decide) e.symm
    have h1 := h78 v hv
    refine ⟨?_, ?_⟩
    · rw [a7, e2, su_o (by omega), e1, su_j hv0]; exact h1.1
    · rw [a8, e2, su_j hv0, e1, su_o (by omega)]; exact h1.2
theorem sp_record0 {Q : ab_Po} {S : ab_S} (h3 : S 1 0 3 = 0) (hW : CTd S 0 d0) (hQ : ∀ S', (∀ a b, (a ≠ 1 ∧ a ≠ 11 ∧ a ≠ 12 ∧ a ≠ 13 ∧ (a < 4 ∨ 9 < a ∨ b ≠ 1)) → S' a b = S a b) → S' 1 0 3 = 1 → CTd S' 1 d0 → S' 11 0 0 = -1 → S' 12 0 0 = -1 → S' 13 0 0 = 1 → Q (.inl (some 0)) S') : Sp_X1_record [.inr (1, 0), .inr (4, 0), .inl (-1), .inl (-1)] S Q := by
  refine ⟨Nat.le_of_ble_eq_true rfl, fun G hG => ?_⟩
  refine bl_X1_record_0 hG 0 (-1) (-1) S (fun S1 e1 => ?_)
  rw [h3] at e1 ⊢
  rw [sb_cl0]
  have i0 : vp_in (0 : Int32) 12 := pk_in 0 12 (by omega)
  refine ⟨i0, sp_copyFrom (by omega) (fun S2 o2 c4 cc => ?_)⟩
  refine bl_X1_record_27 hG _ _ _ _ S2 ?_
  rw [sb_cl0]
  refine ⟨i0, fun S3 e3 => ⟨i0, fun S4 e4 => ?_⟩⟩
  have rch : ∀ (Q : ab_Po), Q (.inl (some 0)) S4 → Sp_X1_reachOf [.inr (1, 0), .inl (-1)] S4 Q := fun Q hQ => by
    refine ⟨Nat.le_of_ble_eq_true rfl, fun G hG => ?_⟩
    exact bl_X1_reachOf_0 hG _ S4 ⟨fun _ => hQ, fun z => absurd rfl z⟩
  refine rch _ ?_
  refine bl_X1_record_58 hG _ _ _ _ _ _ _ S4 (rch _ ?_)
  refine bl_X1_record_64 hG _ _ _ _ _ _ _ S4 ⟨i0, fun S5 e5 => ?_⟩
  rw [sb_cl0] at e5
  refine hQ S5 (fun a b z => ?_) ?_ ?_ ?_ ?_ ?_
  · rw [e5, su_o (by omega), e4, su_o (by omega), e3, su_o (by omega), o2 a b (by omega), e1, su_o (by omega)]
  · rw [e5, su_o (by omega), e4, su_o (by omega), e3, su_o (by omega), o2 1 0 (by omega), e1, su_at]; rfl
  · have h1 : CTd S1 0 d0 := hW.rows (fun a h1 h2 => by rw [e1, su_o (by omega)])
    exact (h1.cp (w := 1) d0_ok c4 cc).rows (fun a h1 h2 => by rw [e5, su_o (by omega), e4, su_o (by omega), e3, su_o (by omega)])
  · rw [e5, su_o (by omega), e4, su_o (by omega), e3, su_at]
  · rw [e5, su_o (by omega), e4, su_at]
  · rw [e5, su_at]; decide
def prC : ab_Ob → Bool := fun o => decide (o.1 < 20)
theorem prC_cl : cn_clb prC = true := by decide +kernel
def prC1 : ab_Ob → Bool := fun o => prT 0 o || prH o
def prC2 : ab_Ob → Bool := fun o => prC1 o || prM o
def prC3 : ab_Ob → Bool := fun o => prC2 o || prE o
theorem prC1_cl : cn_clb prC1 = true := by decide +kernel
theorem prC2_cl : cn_clb prC2 = true := by decide +kernel
theorem prC3_cl : cn_clb prC3 = true := by decide +kernel
theorem prC_d1 : ∀ o ∈ ab_ids, (prT 0 o && prH o) = false := by decide +kernel
theorem prC_d2 : ∀ o ∈ ab_ids, (prC1 o && prM o) = false := by decide +kernel
theorem prC_d3 : ∀ o ∈ ab_ids, (prC2 o && prE o) = false := by decide +kernel
theorem prC_e : ∀ o ∈ ab_ids, ([((0 : Nat), (0 : Nat))].contains o || prC3 o) = prC o := by decide +kernel
theorem cn_dis {ad1 ad2 : ab_Ob → Nat} {p1 p2 : ab_Ob → Bool} (h1 : cn_pr ad1 p1) (h2 : cn_pr ad2 p2) (hd : ∀ o ∈ ab_ids, (p1 o && p2 o) = false) : ∀ o, o ∈ ab_ids → ad1 o ≠ 0 → ad2 o = 0 := fun o ho a => Decidable.byContradiction fun b => by
  have := hd o ho
  rw [(h1 o ho).mp a, (h2 o ho).mp b] at this
  cases this
def fsG : List Value := [.null, .null, .null, .null, .int 0, .int 0, .int 0]
def rm_X5_init : Room := { frames := 6, cells := 530, slots := 3180, locals := 100 }
def M_X5_init : ab_M := (cX5_init, [(10, 0, 0), (19, 0, 1)], [(41, 0, 4), (49, 0, 5), (52, 0, 6)], (fun i => if i = 37 then some (3, 2, 0, 0, Sp_X4_plant) else if i = 45 then some (1, 3, 1, 0, Sp_X1_record) else none), (fun i => none), (fun i => none), [], [], (fun i => none), [], 0, 530)
set_option maxRecDepth 20000 in
theorem ok_X5_init (l : Launch) : ab_Ok l RX5 wsX5_init rm_X5_init 0 M_X5_init := by
  refine ⟨?_, ?_, ?_, ?_, ?_, ?_, ?_, ?_, ?_, ?_, ?_, ?_, ?_⟩
  · exact by decide
  · exact Or.inl rfl
  · exact by unfold ab_flok; decide +kernel
  · exact by unfold ab_plok ab_flok; decide +kernel
  · exact by decide +kernel
  · exact by
      intro idx rc n ri kc τ h
      simp only [M_X5_init, ab_cv, ab_cs, ab_cn] at h
      split at h
      · rename_i hi; subst hi; cases h; exact ⟨yX4_plant, cX4_plant, 3, _, wsX4_plant, _, rm_X4_plant, (so_X4_plant l), gX5_init_X4_plant, rfl, rfl, rfl, rfl, ⟨by decide +kernel, by decide +kernel, by decide +kernel⟩, by decide⟩
      split at h
      · rename_i hi; subst hi; cases h; exact ⟨yX1_record, cX1_record, 5, _, wsX1_record, _, rm_X1_record, (so_X1_record l), gX5_init_X1_record, rfl, rfl, rfl, rfl, ⟨by decide +kernel, by decide +kernel, by decide +kernel⟩, by decide⟩
      cases h
  · exact fun _ _ _ _ _ _ h => ab_no h
  · exact fun _ _ _ _ _ _ h => ab_no h
  · exact by decide +kernel
  · exact by decide +kernel
  · exact fun _ _ h => ab_no h
  · exact by decide
  · exact by decide
theorem G_X5_init {G : ab_Gt} (hG : ab_Cl M_X5_init (fun o S' => o = .inl none ∧ JC S' g0) G) : G 48 [some (.inr (0, 0))] [] cn_S0 530 := by
  refine ab_aload_n' hG 48 _ [] _ _ 0 (0, 0) dX5_init_48 rfl ?_
  refine ab_gR hG 49 _ [] _ _ 10 0 0 0 (4, 0) dX5_init_49 (by decide) rfl ?_
  refine ab_iconst' hG 52 _ _ _ _ 0 0 dX5_init_52 (by decide) ?_
  refine ab_iconst' hG 53 _ _ _ _ 0 0 dX5_init_53 (by decide) ?_
  refine ab_invv' hG 54 _ [.inl 0, .inl 0] [] _ _ 37 3 2 0 0 _ (4, 0) dX5_init_54 rfl rfl rfl rfl (by decide) (by decide) ?_
  refine sp_plant0 rfl (fun j _ => ⟨rfl, rfl⟩) (fun S1 o1 w1 => ?_)
  refine ab_aload_n' hG 57 _ [] _ _ 0 (0, 0) dX5_init_57 rfl ?_
  refine ab_iconst' hG 58 _ _ _ _ 1 1 dX5_init_58 (by decide) ?_
  refine ab_putfield' hG 59 _ [] _ _ 41 0 4 0 1 dX5_init_59 (by decide) ?_
  generalize e2 : ab_su S1 0 0 4 1 = S2
  refine ab_aload_n' hG 62 _ [] _ _ 0 (0, 0) dX5_init_62 rfl ?_
  refine ab_aload_n' hG 63 _ _ _ _ 0 (0, 0) dX5_init_63 rfl ?_
  refine ab_gR hG 64 _ _ _ _ 19 0 1 0 (1, 0) dX5_init_64 (by decide) rfl ?_
  refine ab_aload_n' hG 67 _ _ _ _ 0 (0, 0) dX5_init_67 rfl ?_
  refine ab_gR hG 68 _ _ _ _ 10 0 0 0 (4, 0) dX5_init_68 (by decide) rfl ?_
  refine ab_iconst' hG 71 _ _ _ _ (-1) (-1) dX5_init_71 (by decide) ?_
  refine ab_iconst' hG 72 _ _ _ _ (-1) (-1) dX5_init_72 (by decide) ?_
  refine ab_invv' hG 73 _ [.inr (4, 0), .inl (-1), .inl (-1)] [.inr (0, 0)] _ _ 45 1 3 1 0 _ (1, 0) dX5_init_73 rfl rfl rfl rfl (by decide) (by decide) ?_
  have k2 : ∀ a b, (a ≠ 0 ∧ (a < 4 ∨ 9 < a ∨ b ≠ 0)) → S2 a b = cn_S0 a b := fun a b z => by rw [← e2, su_o (by omega), o1 a b (by omega)]
  refine sp_record0 (by rw [k2 1 0 (by omega)]; rfl) (w1.rows (fun a h1 h2 => by rw [← e2, su_o (by omega)])) (fun S3 o3 r1 r2 r3 r4 r5 => ?_)
  refine ab_putfield' hG 76 _ [] _ _ 49 0 5 0 0 dX5_init_76 (by decide) ?_
  generalize e4 : ab_su S3 0 0 5 0 = S4
  refine ab_aload_n' hG 79 _ [] _ _ 0 (0, 0) dX5_init_79 rfl ?_
  refine ab_iconst' hG 80 _ _ _ _ (-1) (-1) dX5_init_80 (by decide) ?_
  refine ab_putfield' hG 81 _ [] _ _ 52 0 6 0 (-1) dX5_init_81 (by decide) ?_
  generalize e5 : ab_su S4 0 0 6 (-1) = S5
  refine ab_return_' hG 84 _ S5 _ dX5_init_84 rfl (by decide) ⟨rfl, ?_⟩
  have kk : ∀ a b, a ≠ 0 → S5 a b = S3 a b := fun a b z => by rw [← e5, su_o (by omega), ← e4, su_o (by omega)]
  refine ⟨⟨?_, ?_, ?_, ?_⟩, ?_, fun c hc => ?_, ?_, fun k hk => absurd hk (by show ¬ k < 0; omega)⟩
  · rw [← e5, su_j (by decide), ← e4, su_j (by decide), o3 0 0 (by omega), ← e2, su_at]; rfl
  · rw [← e5, su_j (by decide), ← e4, su_at]; rfl
  · rw [← e5, su_at]; rfl
  · rw [kk 1 0 (by omega)]; exact r1
  · exact w1.rows (fun a h1 h2 => by rw [kk a 0 (by omega), o3 a 0 (by omega), ← e2, su_o (by omega)])
  · have hz : c = 0 := by have h : c < 1 := hc; omega
    subst hz
    exact ⟨r2.rows (fun a h1 h2 => by rw [kk a 1 (by omega)]), by rw [kk 11 0 (by omega)]; exact r3, by rw [kk 12 0 (by omega)]; exact r4, by rw [kk 13 0 (by omega)]; exact r5⟩
  · rw [kk 2 0 (by omega), o3 2 0 (by omega), k2 2 0 (by omega)]; rfl
set_option maxRecDepth 20000 in
theorem cs_X5 (l : Launch) : cn_Sound l yX5_init wsX5_init rm_X5_init 4 fsG (0, 0) prC (fun S => JC S g0) := by
  intro D a cy sa
  refine ab_ofx (XC := fun _ _ _ => False) (vx_ofW (cc := cX5_init) (maxL := 1) (ret := none) (by decide) rfl ?_) (fun _ _ _ h => h)
  intro p e s m args below meth c s₁ B hml hout hv
  obtain ⟨rfl, ha0, hat, hK⟩ := hv
  have hx := B.exec
  have hb := B.bytes
  have hr := B.returns
  have hts := atoms_spec (ws := wsX5_init) B.pre
  have hown : s.vm.findClass RX5 = some m.cls := findClass_of_methodNamed B.named
  have hlocks := B.notSynchronized
  have hin0 : meth.name = "<init>" := (name_of_methodNamed B.named B.method).1
  have hlt : a < s.heap.size := hat.lt
  have hbs : a ≤ s.heap.size := Nat.le_of_lt hlt
  have hS : va_S (ab_A a) s.heap s.heap [] := va_S.rf
  have hl := lv_entry ([.ref a]) (n := 1) (Nat.le_of_ble_eq_true rfl)
  rw [lg_entry_eq]
  generalize (lg_sl ([.ref a]) ++ List.replicate (1 - (lg_sl ([.ref a])).length) Slot.unset).toArray = ls at hl ⊢
  have hl : lv_has ls 1 [(0, .ref a)] := hl
  refine lv_aload_n hx hb dX5_init_0 rfl (lv_at hl 0 rfl) ?_
  refine W.objInit hx hb hown (hts (.methodLink RX5 1 objectInit) (by decide +kernel)) (hts (.instanceMethod objectInit) (by decide +kernel)) (hts _ (List.mem_of_getElem? (i := 3) rfl)) rfl (by rw [hml]; exact hl.1) rfl dX5_init_1 (Nat.le_of_ble_eq_true rfl) (Nat.le_of_ble_eq_true rfl) ?_
  refine W.eq (g2 := F0 m 4 ls []) rfl ?_
  have hP : va_P D vwCl ((a, .inr (4, fsG)) :: []) s.heap := cn_Piff.mpr fun q hq => by
    rcases List.mem_cons.mp hq with h | h
    · subst h; exact hat
    · cases h
  have hD : va_D (ab_A a) (((a, .inr (4, fsG)) : Nat × va_E) :: []) := cn_Diff.mpr ⟨by simp, fun q hq => by
    rcases List.mem_cons.mp hq with h | h
    · subst h; exact Nat.le_refl a
    · cases h⟩
  have hc : vwCl[4]? = some (RX5, TX5, 7) := rfl
  have hin : ∀ w ∈ u_ws RX5 TX5 7, w ∈ wsX5_init := by decide +kernel
  refine lv_aload_n hx hb dX5_init_4 rfl (lv_at hl 0 rfl) ?_
  refine cn_new hx hb hml hown hts hK ha0 hbs (cs_X4 l 0 (by omega)) (C := RX4) (T := TX4) (N := 6) rfl tyX4 tyX4_ok (by decide) (by decide +kernel) (by decide +kernel) (by decide +kernel) (by decide +kernel) rfl gX5_init_X4_init rfl (ic := 9) (by decide +kernel) (by decide +kernel) rfl ⟨by decide +kernel, by decide +kernel, by decide +kernel⟩ (by decide) hl.1 (Nat.le_of_ble_eq_true rfl) dX5_init_5 dX5_init_8 dX5_init_9 (by decide) (by decide) hP hD hS (fun q1 ad1 S1 Ha1 la1 hq1 hro1 hpr1 hS01 hPa1 hDa1 hSa1 => ?_)
  subst hS01
  have hPa1 : va_P D vwCl ((a, .inr (4, fsG)) :: ab_wl ad1 cy cn_S0) Ha1 := hPa1
  have hDa1 : va_D (ab_A a) (((a, .inr (4, fsG)) : Nat × va_E) :: ab_wl ad1 cy cn_S0) := hDa1
  refine cn_put hx hb hown hts hK hin0 hPa1 hDa1 hSa1 hc hin tyX5 tyX5_ok nmX5 0 (by decide) (Nat.le_of_ble_eq_true rfl) (by decide +kernel) (by decide) ⟨rfl, rfl⟩ dX5_init_12 (fun H1 locs1 hPb1 hDb1 hS1 => ?_)
  have hpb1 : cn_pr ad1 (prT 0) := hpr1
  generalize hb1 : ad1 = bd1 at *
  have hP1 : va_P D vwCl ((a, .inr (4, (fsG.set 0 (.ref q1)))) :: ab_wl bd1 cy cn_S0) H1 := hPb1
  have hD1 : va_D (ab_A a) (((a, .inr (4, (fsG.set 0 (.ref q1)))) : Nat × va_E) :: ab_wl bd1 cy cn_S0) := hDb1
  have f1 : bd1 (4, 0) = q1 := hro1
  refine lv_aload_n hx hb dX5_init_15 rfl (lv_at hl 0 rfl) ?_
  refine cn_new hx hb hml hown hts hK ha0 hbs (cs_X1 l) (C := RX1) (T := TX1) (N := 5) rfl tyX1 tyX1_ok (by decide) (by decide +kernel) (by decide +kernel) (by decide +kernel) (by decide +kernel) rfl gX5_init_X1_init rfl (ic := 18) (by decide +kernel) (by decide +kernel) rfl ⟨by decide +kernel, by decide +kernel, by decide +kernel⟩ (by decide) hl.1 (Nat.le_of_ble_eq_true rfl) dX5_init_16 dX5_init_19 dX5_init_20 (by decide) (by decide) hP1 hD1 hS1 (fun q2 ad2 S2 Ha2 la2 hq2 hro2 hpr2 hS02 hPa2 hDa2 hSa2 => ?_)
  subst hS02
  have hPa2 : va_P D vwCl ((a, .inr (4, (fsG.set 0 (.ref q1)))) :: (ab_wl bd1 cy cn_S0 ++ ab_wl ad2 cy cn_S0)) Ha2 := hPa2
  have hDa2 : va_D (ab_A a) (((a, .inr (4, (fsG.set 0 (.ref q1)))) : Nat × va_E) :: (ab_wl bd1 cy cn_S0 ++ ab_wl ad2 cy cn_S0)) := hDa2
  refine cn_put hx hb hown hts hK hin0 hPa2 hDa2 hSa2 hc hin tyX5 tyX5_ok nmX5 1 (by decide) (Nat.le_of_ble_eq_true rfl) (by decide +kernel) (by decide) ⟨rfl, rfl⟩ dX5_init_23 (fun H2 locs2 hPb2 hDb2 hS2 => ?_)
  obtain ⟨hP2, hD2⟩ := cn_join (ws := [(a, .inr (4, ((fsG.set 0 (.ref q1)).set 1 (.ref q2))))]) (hpb1.cld (prT_cl 0 (by decide))) (hpr2.cld prH_cl) (cn_dis hpb1 hpr2 prC_d1) (S := cn_S0) (fun _ _ _ _ _ => rfl) (fun _ _ _ _ _ => rfl) hPb2 hDb2
  have hpb2 : cn_pr (cn_or bd1 ad2) prC1 := hpb1.or hpr2
  have f1 : cn_or bd1 ad2 (4, 0) = q1 := (cn_or1 (by rw [f1]; omega)).trans f1
  have f2 : cn_or bd1 ad2 (1, 0) = q2 := (cn_or2 (hpb1.no (cn_ids.mpr (by decide)) (by decide))).trans hro2
  generalize cn_or bd1 ad2 = bd2 at *
  have hP2 : va_P D vwCl ((a, .inr (4, ((fsG.set 0 (.ref q1)).set 1 (.ref q2)))) :: ab_wl bd2 cy cn_S0) H2 := hP2
  have hD2 : va_D (ab_A a) (((a, .inr (4, ((fsG.set 0 (.ref q1)).set 1 (.ref q2)))) : Nat × va_E) :: ab_wl bd2 cy cn_S0) := hD2
  refine lv_aload_n hx hb dX5_init_26 rfl (lv_at hl 0 rfl) ?_
  refine cn_newN hx hb hml hown hts hK ha0 hbs (cs_X2 l) (C := RX2) (T := TX2) (N := 3) rfl tyX2 tyX2_ok (by decide) (by decide +kernel) (by decide +kernel) (by decide +kernel) (by decide +kernel) rfl gX5_init_X2_init_n25 rfl (ic := 25) hK.2.2.2.2.2.2.2.2.2.1 (by decide +kernel) rfl ⟨by decide +kernel, by decide +kernel, by decide +kernel⟩ (by decide) hl.1 (Nat.le_of_ble_eq_true rfl) dX5_init_27 dX5_init_30 dX5_init_31 (by decide) (by decide) hP2 hD2 hS2 (fun q3 ad3 S3 Ha3 la3 hq3 hro3 hpr3 hS03 hPa3 hDa3 hSa3 => ?_)
  subst hS03
  have hPa3 : va_P D vwCl ((a, .inr (4, ((fsG.set 0 (.ref q1)).set 1 (.ref q2)))) :: (ab_wl bd2 cy cn_S0 ++ ab_wl ad3 cy cn_S0)) Ha3 := hPa3
  have hDa3 : va_D (ab_A a) (((a, .inr (4, ((fsG.set 0 (.ref q1)).set 1 (.ref q2)))) : Nat × va_E) :: (ab_wl bd2 cy cn_S0 ++ ab_wl ad3 cy cn_S0)) := hDa3
  refine cn_put hx hb hown hts hK hin0 hPa3 hDa3 hSa3 hc hin tyX5 tyX5_ok nmX5 2 (by decide) (Nat.le_of_ble_eq_true rfl) (by decide +kernel) (by decide) ⟨rfl, rfl⟩ dX5_init_34 (fun H3 locs3 hPb3 hDb3 hS3 => ?_)
  obtain ⟨hP3, hD3⟩ := cn_join (ws := [(a, .inr (4, (((fsG.set 0 (.ref q1)).set 1 (.ref q2)).set 2 (.ref q3))))]) (hpb2.cld prC1_cl) (hpr3.cld prM_cl) (cn_dis hpb2 hpr3 prC_d2) (S := cn_S0) (fun _ _ _ _ _ => rfl) (fun _ _ _ _ _ => rfl) hPb3 hDb3
  have hpb3 : cn_pr (cn_or bd2 ad3) prC2 := hpb2.or hpr3
  have f1 : cn_or bd2 ad3 (4, 0) = q1 := (cn_or1 (by rw [f1]; omega)).trans f1
  have f2 : cn_or bd2 ad3 (1, 0) = q2 := (cn_or1 (by rw [f2]; omega)).trans f2
  have f3 : cn_or bd2 ad3 (2, 0) = q3 := (cn_or2 (hpb2.no (cn_ids.mpr (by decide)) (by decide))).trans hro3
  generalize cn_or bd2 ad3 = bd3 at *
  have hP3 : va_P D vwCl ((a, .inr (4, (((fsG.set 0 (.ref q1)).set 1 (.ref q2)).set 2 (.ref q3)))) :: ab_wl bd3 cy cn_S0) H3 := hP3
  have hD3 : va_D (ab_A a) (((a, .inr (4, (((fsG.set 0 (.ref q1)).set 1 (.ref q2)).set 2 (.ref q3)))) : Nat × va_E) :: ab_wl bd3 cy cn_S0) := hD3
  refine lv_aload_n hx hb dX5_init_37 rfl (lv_at hl 0 rfl) ?_
  refine cn_newN hx hb hml hown hts hK ha0 hbs (cs_X0 l) (C := RX0) (T := TX0) (N := 4) rfl tyX0 tyX0_ok (by decide) (by decide +kernel) (by decide +kernel) (by decide +kernel) (by decide +kernel) rfl gX5_init_X0_init_n32 rfl (ic := 32) hK.2.2.2.2.2.2.2.2.2.2 (by decide +kernel) rfl ⟨by decide +kernel, by decide +kernel, by decide +kernel⟩ (by decide) hl.1 (Nat.le_of_ble_eq_true rfl) dX5_init_38 dX5_init_41 dX5_init_42 (by decide) (by decide) hP3 hD3 hS3 (fun q4 ad4 S4 Ha4 la4 hq4 hro4 hpr4 hS04 hPa4 hDa4 hSa4 => ?_)
  subst hS04
  have hPa4 : va_P D vwCl ((a, .inr (4, (((fsG.set 0 (.ref q1)).set 1 (.ref q2)).set 2 (.ref q3)))) :: (ab_wl bd3 cy cn_S0 ++ ab_wl ad4 cy cn_S0)) Ha4 := hPa4
  have hDa4 : va_D (ab_A a) (((a, .inr (4, (((fsG.set 0 (.ref q1)).set 1 (.ref q2)).set 2 (.ref q3)))) : Nat × va_E) :: (ab_wl bd3 cy cn_S0 ++ ab_wl ad4 cy cn_S0)) := hDa4
  refine cn_put hx hb hown hts hK hin0 hPa4 hDa4 hSa4 hc hin tyX5 tyX5_ok nmX5 3 (by decide) (Nat.le_of_ble_eq_true rfl) (by decide +kernel) (by decide) ⟨rfl, rfl⟩ dX5_init_45 (fun H4 locs4 hPb4 hDb4 hS4 => ?_)
  obtain ⟨hP4, hD4⟩ := cn_join (ws := [(a, .inr (4, ((((fsG.set 0 (.ref q1)).set 1 (.ref q2)).set 2 (.ref q3)).set 3 (.ref q4))))]) (hpb3.cld prC2_cl) (hpr4.cld prE_cl) (cn_dis hpb3 hpr4 prC_d3) (S := cn_S0) (fun _ _ _ _ _ => rfl) (fun _ _ _ _ _ => rfl) hPb4 hDb4
  have hpb4 : cn_pr (cn_or bd3 ad4) prC3 := hpb3.or hpr4
  have f1 : cn_or bd3 ad4 (4, 0) = q1 := (cn_or1 (by rw [f1]; omega)).trans f1
  have f2 : cn_or bd3 ad4 (1, 0) = q2 := (cn_or1 (by rw [f2]; omega)).trans f2
  have f3 : cn_or bd3 ad4 (2, 0) = q3 := (cn_or1 (by rw [f3]; omega)).trans f3
  have f4 : cn_or bd3 ad4 (3, 0) = q4 := (cn_or2 (hpb3.no (cn_ids.mpr (by decide)) (by decide))).trans hro4
  generalize cn_or bd3 ad4 = bd4 at *
  have hP4 : va_P D vwCl ((a, .inr (4, ((((fsG.set 0 (.ref q1)).set 1 (.ref q2)).set 2 (.ref q3)).set 3 (.ref q4)))) :: ab_wl bd4 cy cn_S0) H4 := hP4
  have hD4 : va_D (ab_A a) (((a, .inr (4, ((((fsG.set 0 (.ref q1)).set 1 (.ref q2)).set 2 (.ref q3)).set 3 (.ref q4)))) : Nat × va_E) :: ab_wl bd4 cy cn_S0) := hD4
  generalize hL : ([((0, 0), a)] : List (ab_Ob × Nat)) = L
  have hL2 : ∀ p, p ∈ L → p.2 ≠ 0 := by
    intro p hp
    rw [← hL] at hp
    simp only [List.mem_cons, List.not_mem_nil, or_false] at hp
    subst hp; simp only; omega
  have hL3 : ∀ p, p ∈ L → bd4 p.1 = 0 := by
    intro p hp
    rw [← hL] at hp
    simp only [List.mem_cons, List.not_mem_nil, or_false] at hp
    subst hp
    exact hpb4.no (o := (0, 0)) (cn_ids.mpr (by decide)) (by decide)
  have hpr : cn_pr (cn_ad L bd4) prC := (hpb4.ext hL2).to (fun o ho => by rw [← hL]; exact prC_e o ho)
  have r0 : cn_ad L bd4 (0, 0) = a := by rw [← hL]; rfl
  have r1 : cn_ad L bd4 (4, 0) = q1 := by rw [← hL]; exact f1
  have r2 : cn_ad L bd4 (1, 0) = q2 := by rw [← hL]; exact f2
  have r3 : cn_ad L bd4 (2, 0) = q3 := by rw [← hL]; exact f3
  have r4 : cn_ad L bd4 (3, 0) = q4 := by rw [← hL]; exact f4
  have hPm := cn_Piff.mp hP4
  have hat2 : ∀ p, p ∈ L → va_at D vwCl (p.2, ab_enc (cn_ad L bd4) cy cn_S0 p.1) H4 := by
    intro p hp
    rw [← hL] at hp
    simp only [List.mem_cons, List.not_mem_nil, or_false] at hp
    subst hp
    have he : ab_enc (cn_ad L bd4) cy cn_S0 (0, 0) = .inr (4, [.ref q1, .ref q2, .ref q3, .ref q4, .int 0, .int 0, .int 0]) := by
      rw [ab_enc_obj rfl, ← r1, ← r2, ← r3, ← r4]; rfl
    show va_at D vwCl (a, ab_enc (cn_ad L bd4) cy cn_S0 (0, 0)) H4
    rw [he]
    exact hPm _ List.mem_cons_self
  obtain ⟨hP6, hD6⟩ := cn_ext (L := L) (ad1 := bd4) (S1 := cn_S0) (S := cn_S0) (ws := [(a, .inr (4, [.ref q1, .ref q2, .ref q3, .ref q4, .int 0, .int 0, .int 0]))]) (hpb4.cld prC3_cl) hL3 (fun _ _ _ _ _ => rfl) (by rw [← hL]; rfl) hat2 hP4 hD4
  exact cn_tail (M := M_X5_init) (Qt := fun o S' => o = .inl none ∧ JC S' g0) (ok_X5_init l) hx hb hml hr rfl hown hts hK hbs hout hlocks r0 ha0 (cn_ids.mpr (by decide)) hpr prC_cl hP6 hD6 hS4 hl (fun E S' h => by cases h.1) (fun S' h => ⟨S', h.2, fun _ _ _ _ _ => rfl⟩) (by decide) (by decide) (fun G hG => G_X5_init hG)
