/-! The constructor of History. -/
theorem cn_ret {p : Program} {l : Launch} {e : Env} {R : Room} {s : State} {m : MethodId} {args : Array Value} {below : List Frame} {meth : Method} {c : Code} {cc : ByteArray} {D : va_G} {cy : Nat → ClassId} {H : Heap} {locs : List Loc} {cells slots mc ms pc a : Nat} {ls : Array Slot} {ad : ab_Ob → Nat} {S : ab_S} {root : ab_Ob} {pr : ab_Ob → Bool} {P : ab_S → Prop} {XC : String → State → State → Prop}
    (hx : p.tables.exec = Jvm.exec) (hb : c.code = cc) (hr : meth.sig.returnType = none) (hlocks : meth.locks = false) (hroot : ad root = a) (hpr : cn_pr ad pr) (hPS : P S) (hP : va_P D vwCl (ab_wl ad cy S) H) (hD : va_D (ab_A a) (ab_wl ad cy S)) (hS : va_S (ab_A a) s.heap H locs) (hc1 : cells ≤ mc) (hs1 : slots ≤ ms) (hdg : decode cc pc = .ok (.return_, 1)) :
    W p l e R s m args below meth c H locs cells slots (vx_MQ below (cn_Post D a cy root pr P) XC args s mc ms (ab_A a)) (F0 m pc ls []) :=
  vx_ret (W.widen hc1 hs1 (W.vret hx hb hr (fun t ht hW => ⟨⟨(ad, S), rfl, ⟨hroot, hpr, hPS⟩, by rw [ht]; exact hP, hD⟩, hS.F ht⟩) (fun q hq => hS.2.2 q hq) hdg hlocks))
theorem cn_pr.no {ad : ab_Ob → Nat} {pr : ab_Ob → Bool} {o : ab_Ob} (h : cn_pr ad pr) (ho : o ∈ ab_ids) (hp : pr o = false) : ad o = 0 := Decidable.byContradiction fun z => by
  have := (h o ho).mp z
  rw [hp] at this
  cases this
def prTs (i : Nat) : ab_Ob → Bool := fun o => decide (4 ≤ o.1) && decide (o.1 ≤ 9) && decide (1 ≤ o.2) && decide (o.2 ≤ i)
theorem prTs_cl : ∀ i, i < 13 → cn_clb (prTs i) = true := by decide +kernel
theorem prTs_s {i : Nat} : ∀ o, (prTs i o || prT (i + 1) o) = prTs (i + 1) o := by
  intro o
  rw [Bool.eq_iff_iff]
  simp only [prTs, prT, Bool.or_eq_true, Bool.and_eq_true, decide_eq_true_eq]
  omega
def prH : ab_Ob → Bool := fun o => decide (o.1 = 1) || (decide (10 ≤ o.1) && decide (o.1 ≤ 13)) || prTs 12 o
theorem prH_cl : cn_clb prH = true := by decide +kernel
theorem prH_e : ∀ o ∈ ab_ids, ([((1 : Nat), (0 : Nat)), (10, 0), (11, 0), (12, 0), (13, 0)].contains o || prTs 12 o) = prH o := by decide +kernel
def fsH : List Value := [.null, .null, .null, .int 0, .null]
def rm_X1_init : Room := { frames := 4, cells := 256, slots := 1560, locals := 64 }
set_option maxRecDepth 20000 in
theorem cs_X1 (l : Launch) : cn_Sound l yX1_init wsX1_init rm_X1_init 1 fsH (1, 0) prH (fun S => S = cn_S0) := by
  intro D a cy sa
  refine ab_ofx (XC := fun _ _ _ => False) (vx_ofW (cc := cX1_init) (maxL := 2) (ret := none) (by decide) rfl ?_) (fun _ _ _ h => h)
  intro p e s m args below meth c s₁ B hml hout hv
  obtain ⟨rfl, ha0, hat, hK⟩ := hv
  have hx := B.exec
  have hb := B.bytes
  have hr := B.returns
  have hts := atoms_spec (ws := wsX1_init) B.pre
  have hown : s.vm.findClass RX1 = some m.cls := findClass_of_methodNamed B.named
  have hlocks := B.notSynchronized
  have hin0 : meth.name = "<init>" := (name_of_methodNamed B.named B.method).1
  have hlt : a < s.heap.size := hat.lt
  have hbs : a ≤ s.heap.size := Nat.le_of_lt hlt
  have hS : va_S (ab_A a) s.heap s.heap [] := va_S.rf
  have hl := lv_entry ([.ref a]) (n := 2) (Nat.le_of_ble_eq_true rfl)
  rw [lg_entry_eq]
  generalize (lg_sl ([.ref a]) ++ List.replicate (2 - (lg_sl ([.ref a])).length) Slot.unset).toArray = ls at hl ⊢
  have hl : lv_has ls 2 [(0, .ref a)] := hl
  refine lv_aload_n hx hb dX1_init_0 rfl (lv_at hl 0 rfl) ?_
  refine W.objInit hx hb hown (hts (.methodLink RX1 3 objectInit) (by decide +kernel)) (hts (.instanceMethod objectInit) (by decide +kernel)) (hts _ (List.mem_of_getElem? (i := 3) rfl)) rfl (by rw [hml]; exact hl.1) rfl dX1_init_1 (Nat.le_of_ble_eq_true rfl) (Nat.le_of_ble_eq_true rfl) ?_
  refine W.eq (g2 := F0 m 4 ls []) rfl ?_
  have hP : va_P D vwCl ((a, .inr (1, fsH)) :: []) s.heap := cn_Piff.mpr fun q hq => by
    rcases List.mem_cons.mp hq with h | h
    · subst h; exact hat
    · cases h
  have hD : va_D (ab_A a) (((a, .inr (1, fsH)) : Nat × va_E) :: []) := cn_Diff.mpr ⟨by simp, fun q hq => by
    rcases List.mem_cons.mp hq with h | h
    · subst h; exact Nat.le_refl a
    · cases h⟩
  have hc : vwCl[1]? = some (RX1, TX1, 5) := rfl
  have hin : ∀ w ∈ u_ws RX1 TX1 5, w ∈ wsX1_init := fun w h => List.mem_cons_of_mem _ (List.mem_append_left _ (List.mem_append_right _ h))
  have hin4 : ∀ w ∈ u_ws RX4 TX4 6, w ∈ wsX1_init := fun w h => List.mem_cons_of_mem _ (List.mem_append_right _ h)
  have hAO : va_AO "GroveMerge$Tree" s := hK.2.2.2.2.2.2.2.1
  refine lv_aload_n hx hb dX1_init_4 rfl (lv_at hl 0 rfl) ?_
  refine lv_bipush hx hb dX1_init_5 (v := 12) (by decide) ?_
  refine va_newq hx hb (C := "GroveMerge$Tree") hown (hts (.classLink RX1 9 RX4) (by decide +kernel)) hAO hK.1 hP hD hS (fun q h => Nat.le_trans hbs h) (N' := 12) (by decide) (by decide) (by decide) (by decide) (by decide) dX1_init_7 (fun r10 cA H1 hK1 hP1 hD1 hS1 => ?_)
  have eA := (cn_find (hK.1.2 2 _ rfl).2).symm.trans (cn_find (hK1.2 5 _ rfl).2)
  cases eA
  have hr10 : a ≤ r10 := (cn_Diff.mp hD1).2 (r10, _) (List.mem_append_right _ List.mem_cons_self)
  have hP1 : va_P D vwCl ((a, .inr (1, fsH)) :: [(r10, .inl (cy 2, 12, .inr (.inr (.inr (.inr (fun _ => none))))))]) H1 := hP1
  have hD1 : va_D (ab_A a) (((a, .inr (1, fsH)) : Nat × va_E) :: [(r10, .inl (cy 2, 12, .inr (.inr (.inr (.inr (fun _ => none))))))]) := hD1
  refine cn_put hx hb hown hts hK hin0 hP1 hD1 hS1 hc hin tyX1 tyX1_ok nmX1 0 (by decide) (Nat.le_of_ble_eq_true rfl) (by decide +kernel) (by decide) ⟨rfl, rfl⟩ dX1_init_10 (fun H2 locs2 hP2 hD2 hS2 => ?_)
  refine lv_aload_n hx hb dX1_init_13 rfl (lv_at hl 0 rfl) ?_
  refine lv_bipush hx hb dX1_init_14 (v := 12) (by decide) ?_
  refine cn_arr hx hb hown hts hK hbs hin0 hP2 hD2 hS2 hc hin tyX1 tyX1_ok nmX1 (aty := .int) 0 rfl rfl (by decide +kernel) rfl (N' := 12) (by decide) (by decide) (by decide) (by decide) (by decide) dX1_init_16 1 (by decide) (Nat.le_of_ble_eq_true rfl) (by decide +kernel) (by decide) (fun q => ⟨rfl, rfl⟩) dX1_init_18 (fun q2 H3 locs3 hq2 hP3 hD3 hS3 => ?_)
  refine lv_aload_n hx hb dX1_init_21 rfl (lv_at hl 0 rfl) ?_
  refine lv_bipush hx hb dX1_init_22 (v := 12) (by decide) ?_
  refine cn_arr hx hb hown hts hK hbs hin0 hP3 hD3 hS3 hc hin tyX1 tyX1_ok nmX1 (aty := .int) 0 rfl rfl (by decide +kernel) rfl (N' := 12) (by decide) (by decide) (by decide) (by decide) (by decide) dX1_init_24 2 (by decide) (Nat.le_of_ble_eq_true rfl) (by decide +kernel) (by decide) (fun q => ⟨rfl, rfl⟩) dX1_init_26 (fun q3 H4 locs4 hq3 hP4 hD4 hS4 => ?_)
  refine lv_aload_n hx hb dX1_init_29 rfl (lv_at hl 0 rfl) ?_
  refine lv_bipush hx hb dX1_init_30 (v := 12) (by decide) ?_
  refine cn_arr hx hb hown hts hK hbs hin0 hP4 hD4 hS4 hc hin tyX1 tyX1_ok nmX1 (aty := .int) 0 rfl rfl (by decide +kernel) rfl (N' := 12) (by decide) (by decide) (by decide) (by decide) (by decide) dX1_init_32 4 (by decide) (Nat.le_of_ble_eq_true rfl) (by decide +kernel) (by decide) (fun q => ⟨rfl, rfl⟩) dX1_init_34 (fun q4 H5 locs5 hq4 hP5 hD5 hS5 => ?_)
  refine lv_iconst hx hb dX1_init_37 (v := 0) (by decide) ?_
  refine lv_istore_n hx hb dX1_init_38 rfl hl (by decide) rfl (fun ls1 hl1 => ?_)
  have hl1 : lv_has ls1 2 [(1, .int (nI 0)), (0, .ref a)] := hl1
  generalize hX5 : (fun f : Nat → Option Nat => ([(a, .inr (1, [.ref r10, .ref q2, .ref q3, .int 0, .ref q4])), (r10, .inl (cy 2, 12, .inr (.inr (.inr (.inr f))))), (q2, .inl (cy 0, 12, .inl (fun _ => 0))), (q3, .inl (cy 0, 12, .inl (fun _ => 0))), (q4, .inl (cy 0, 12, .inl (fun _ => 0)))] : va_W)) = X5
  have key : ∀ n i, i + n = 12 → ∀ (H : Heap) (locs : List Loc) (ls : Array Slot) (f : Nat → Option Nat) (adT : ab_Ob → Nat), lv_has ls 2 [(1, .int (nI i)), (0, .ref a)] → cn_pr adT (prTs i) → (∀ j, j < i → f j = some (adT (4, j + 1))) →
      va_P D vwCl (X5 f ++ ab_wl adT cy cn_S0) H → va_D (ab_A a) (X5 f ++ ab_wl adT cy cn_S0) → va_S (ab_A a) s.heap H locs →
      W p l e (headSpec wsX1_init rm_X1_init).room s m #[Value.ref a] below meth c H locs (4 + 21 * i) (48 + 126 * i) (vx_MQ below (cn_Post D a cy (1, 0) prH (fun S => S = cn_S0)) (fun _ _ _ => False) #[Value.ref a] s rm_X1_init.cells rm_X1_init.slots (ab_A a)) (F0 m 39 ls []) := by
    intro n
    induction n with
    | zero =>
      intro i hi H locs ls f adT hl hpr hf hP hD hS
      have hi : i = 12 := by omega
      subst hi
      refine lv_iload_n hx hb dX1_init_39 rfl (lv_at hl 0 rfl) ?_
      refine lv_bipush hx hb dX1_init_40 (v := 12) (by decide) ?_
      refine lv_icmp_ge hx hb dX1_init_42 (tgt := 64) (by decide) (fun _ => ?_) (fun h => absurd (by decide) h)
      have hcd := hpr.cld (prTs_cl 12 (by decide))
      generalize hL : ([((1, 0), a), ((10, 0), r10), ((11, 0), q2), ((12, 0), q3), ((13, 0), q4)] : List (ab_Ob × Nat)) = L
      have hL2 : ∀ p, p ∈ L → p.2 ≠ 0 := by
        intro p hp
        rw [← hL] at hp
        simp only [List.mem_cons, List.not_mem_nil, or_false] at hp
        rcases hp with rfl | rfl | rfl | rfl | rfl <;> simp only <;> omega
      have hL3 : ∀ p, p ∈ L → adT p.1 = 0 := by
        intro p hp
        rw [← hL] at hp
        simp only [List.mem_cons, List.not_mem_nil, or_false] at hp
        rcases hp with rfl | rfl | rfl | rfl | rfl
        · exact hpr.no (o := (1, 0)) (cn_ids.mpr (by decide)) (by decide)
        · exact hpr.no (o := (10, 0)) (cn_ids.mpr (by decide)) (by decide)
        · exact hpr.no (o := (11, 0)) (cn_ids.mpr (by decide)) (by decide)
        · exact hpr.no (o := (12, 0)) (cn_ids.mpr (by decide)) (by decide)
        · exact hpr.no (o := (13, 0)) (cn_ids.mpr (by decide)) (by decide)
      have hpr2 : cn_pr (cn_ad L adT) prH := (hpr.ext hL2).to (fun o ho => by rw [← hL]; exact prH_e o ho)
      have r1 : cn_ad L adT (1, 0) = a := by rw [← hL]; rfl
      have r10' : cn_ad L adT (10, 0) = r10 := by rw [← hL]; rfl
      have r11 : cn_ad L adT (11, 0) = q2 := by rw [← hL]; rfl
      have r12 : cn_ad L adT (12, 0) = q3 := by rw [← hL]; rfl
      have r13 : cn_ad L adT (13, 0) = q4 := by rw [← hL]; rfl
      have r4 : ∀ j, cn_ad L adT (4, j + 1) = adT (4, j + 1) := fun j => by rw [← hL]; rfl
      have hPm := cn_Piff.mp (cn_Papp.mp hP).1
      rw [← hX5] at hPm
      have hat2 : ∀ p, p ∈ L → va_at D vwCl (p.2, ab_enc (cn_ad L adT) cy cn_S0 p.1) H := by
        intro p hp
        rw [← hL] at hp
        simp only [List.mem_cons, List.not_mem_nil, or_false] at hp
        rcases hp with rfl | rfl | rfl | rfl | rfl
        · have he : ab_enc (cn_ad L adT) cy cn_S0 (1, 0) = .inr (1, [.ref r10, .ref q2, .ref q3, .int 0, .ref q4]) := by
            rw [ab_enc_obj rfl, ← r10', ← r11, ← r12, ← r13]; rfl
          show va_at D vwCl (a, ab_enc (cn_ad L adT) cy cn_S0 (1, 0)) H
          rw [he]
          exact hPm _ List.mem_cons_self
        · show va_at D vwCl (r10, ab_enc (cn_ad L adT) cy cn_S0 (10, 0)) H
          rw [ab_enc_ref2 (n := 12) rfl]
          have h1 : H[r10]? = some (arrV (cy 2) 12 fun j => va_rf (f j)) := hPm _ (List.mem_of_getElem? (i := 1) rfl)
          show H[r10]? = some (arrV (cy 2) 12 fun j => va_rf (some (cn_ad L adT (4, j + 1))))
          rw [h1, cn_arrV (f := fun j => va_rf (f j)) (g := fun j => va_rf (some (cn_ad L adT (4, j + 1)))) (fun j hj => by rw [hf j hj, r4 j])]
        · exact hPm _ (List.mem_of_getElem? (i := 2) rfl)
        · exact hPm _ (List.mem_of_getElem? (i := 3) rfl)
        · exact hPm _ (List.mem_of_getElem? (i := 4) rfl)
      obtain ⟨hP6, hD6⟩ := cn_ext (L := L) (ad1 := adT) (S1 := cn_S0) (S := cn_S0) (ws := X5 f) hcd hL3 (fun _ _ _ _ _ => rfl) (by rw [← hL, ← hX5]; rfl) hat2 hP hD
      exact cn_ret hx hb hr hlocks r1 hpr2 rfl hP6 hD6 hS (by decide) (by decide) dX1_init_64
    | succ n ih =>
      intro i hi H locs ls f adT hl hpr hf hP hD hS
      have hcd := hpr.cld (prTs_cl i (by omega))
      refine lv_iload_n hx hb dX1_init_39 rfl (lv_at hl 0 rfl) ?_
      refine lv_bipush hx hb dX1_init_40 (v := nI 12) (by decide) ?_
      refine lv_icmp_ge hx hb dX1_init_42 (tgt := 64) (by decide) (fun h => absurd h (nI_ge (by omega) (by decide))) (fun _ => ?_)
      refine lv_aload_n hx hb dX1_init_45 rfl (lv_at hl 1 rfl) ?_
      refine va_get hx hb hts hin hown hK.1 hP 0 (by rw [← hX5]; rfl) hc 0 (by decide) (hts (.fieldLink RX1 11 "GroveMerge$History" "trees" "[LGroveMerge$Tree;") (by decide +kernel)) (fun x h => h) rfl dX1_init_46 ?_
      refine lv_iload_n hx hb dX1_init_49 rfl (lv_at hl 0 rfl) ?_
      refine cn_new hx hb hml hown hts hK ha0 hbs (cs_X4 l (i + 1) (by omega)) (C := RX4) (T := TX4) (N := 6) rfl tyX4 tyX4_ok (by decide) hin4 (by decide +kernel) (by decide +kernel) (by decide +kernel) rfl gX1_init_X4_init rfl (ic := 27) (by decide +kernel) (by decide +kernel) rfl ⟨by decide +kernel, by decide +kernel, by decide +kernel⟩ (by decide) hl.1 (Nat.le_of_ble_eq_true rfl) dX1_init_50 dX1_init_53 dX1_init_54 (by show 4 + 21 * i + 1 + 20 ≤ 256; omega) (by show 48 + 126 * i + 6 + 120 ≤ 1560; omega) hP hD hS (fun q ad S H1 locs1 hq hro hpr1 hS0 hP1 hD1 hS1 => ?_)
      subst hS0
      have hid : (4, i + 1) ∈ ab_ids := cn_ids.mpr (by show i + 1 < 14; omega)
      have hm : ((q, .inr (3, (List.range 6).map fun f => ab_val ad (ab_fv 4 f (i + 1) cn_S0))) : Nat × va_E) ∈ X5 f ++ ab_wl adT cy cn_S0 ++ ab_wl ad cy cn_S0 := by
        refine List.mem_append_right _ (cn_mem.mpr ⟨(4, i + 1), hid, by rw [hro]; omega, ?_⟩)
        rw [hro, ab_enc_obj rfl]
        rfl
      obtain ⟨qk, hqk⟩ := List.getElem?_of_mem hm
      refine va_astq hx hb hK.1 hP1 hD1 hS1 1 2 qk 3 (f := f) (n := 12) (r := (RX4, TX4, 6)) (by rw [← hX5]; rfl) rfl hqk rfl (vp_in_nI (by omega) (by decide)) dX1_init_57 (fun H2 locs2 hP2 hD2 hS2 => ?_)
      rw [nI_clamp (by omega)] at hP2 hD2
      have hset : (X5 f ++ ab_wl adT cy cn_S0 ++ ab_wl ad cy cn_S0).set 1 (r10, .inl (cy 2, 12, .inr (.inr (.inr (.inr (va_up f i (some q))))))) = X5 (va_up f i (some q)) ++ (ab_wl adT cy cn_S0 ++ ab_wl ad cy cn_S0) := by
        rw [← hX5, ← List.append_assoc]; rfl
      rw [hset] at hP2 hD2
      have hdis : ∀ o, o ∈ ab_ids → adT o ≠ 0 → ad o = 0 := fun o ho h1 => by
        refine Decidable.byContradiction fun h2 => ?_
        have a1 := (hpr o ho).mp h1
        have a2 := (hpr1 o ho).mp h2
        simp only [prTs, prT, Bool.and_eq_true, decide_eq_true_eq] at a1 a2
        omega
      obtain ⟨hP3, hD3⟩ := cn_join hcd (hpr1.cld (prT_cl (i + 1) (by omega))) hdis (S := cn_S0) (fun _ _ _ _ _ => rfl) (fun _ _ _ _ _ => rfl) hP2 hD2
      refine lv_iinc hx hb dX1_init_58 hl (k := 0) rfl (v := nI (i + 1)) (nI_succ i).symm (by decide) rfl (fun ls2 hl2 => ?_)
      refine lv_goto hx hb dX1_init_61 (tgt := 39) (by decide) ?_
      have hpr2 : cn_pr (cn_or adT ad) (prTs (i + 1)) := (hpr.or hpr1).to (fun o _ => prTs_s o)
      have e1 : 4 + 21 * (i + 1) = 4 + 21 * i + 1 + rm_X4_init.cells := by show _ = 4 + 21 * i + 1 + 20; omega
      have e2 : 48 + 126 * (i + 1) = 48 + 126 * i + 6 + rm_X4_init.slots := by show _ = 48 + 126 * i + 6 + 120; omega
      rw [← e1, ← e2]
      refine ih (i + 1) (by omega) H2 locs2 ls2 _ (cn_or adT ad) hl2 hpr2 (fun j hj => ?_) hP3 hD3 hS2
      by_cases z : j = i
      · subst z
        rw [va_up_self]
        have hz : adT (4, j + 1) = 0 := Decidable.byContradiction fun h2 => by
          have := (hpr (4, j + 1) hid).mp h2
          simp only [prTs, Bool.and_eq_true, decide_eq_true_eq] at this
          omega
        rw [cn_or2 hz, hro]
      · rw [va_up_ne _ _ z, hf j (by omega)]
        have hz : adT (4, j + 1) ≠ 0 := (hpr (4, j + 1) (cn_ids.mpr (by show j + 1 < 14; omega))).mpr (by simp only [prTs, Bool.and_eq_true, decide_eq_true_eq]; omega)
        rw [cn_or1 hz]
  have hnil : ab_wl (fun _ => 0) cy cn_S0 = [] := cn_nil (D := D)
  have hpr0 : cn_pr (fun _ => 0) (prTs 0) := cn_pr.none.to (fun o _ => by
    cases h : prTs 0 o
    · rfl
    · simp only [prTs, Bool.and_eq_true, decide_eq_true_eq] at h
      omega)
  refine key 12 0 rfl H5 locs5 ls1 (fun _ => none) (fun _ => 0) hl1 hpr0 (fun j hj => by omega) ?_ ?_ hS5
  · rw [hnil, List.append_nil, ← hX5]; exact hP5
  · rw [hnil, List.append_nil, ← hX5]; exact hD5
