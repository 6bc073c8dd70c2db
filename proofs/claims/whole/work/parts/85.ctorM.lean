/-! The constructors of Merger and EditDistance. -/
theorem cn_Pto {D : va_G} {cl : List vw_C} {ws ws' : va_W} {H : Heap} (h : va_P D cl ws H) (hs : ∀ x, x ∈ ws' → x ∈ ws) : va_P D cl ws' H := cn_Piff.mpr fun q hq => cn_Piff.mp h q (hs q hq)
theorem cn_Dp {A : Nat → Prop} {ws ws' : va_W} (h : va_D A ws) (hs : ws'.Perm ws) : va_D A ws' := by
  obtain ⟨h1, h2⟩ := cn_Diff.mp h
  exact cn_Diff.mpr ⟨((hs.map Prod.fst).nodup_iff).mpr h1, fun q hq => h2 q (hs.mem_iff.mp hq)⟩
def adG (κo κi q : Nat) : ab_Ob → Nat := fun o => if o.1 = κo then q else if o.1 = κi then q + 1 + o.2 else 0
def prG (κo κi : Nat) : ab_Ob → Bool := fun o => decide (o.1 = κo) || decide (o.1 = κi)
theorem adG_pr {κo κi q : Nat} (hq : 0 < q) : cn_pr (adG κo κi q) (prG κo κi) := by
  intro o _
  simp only [adG, prG, Bool.or_eq_true, decide_eq_true_eq]
  by_cases h : o.1 = κo
  · rw [if_pos h]; exact ⟨fun _ => Or.inl h, fun _ => by omega⟩
  · rw [if_neg h]
    by_cases h2 : o.1 = κi
    · rw [if_pos h2]; exact ⟨fun _ => Or.inr h2, fun _ => by omega⟩
    · rw [if_neg h2]; exact ⟨fun z => absurd rfl z, fun z => z.elim (fun y => absurd y h) (fun y => absurd y h2)⟩
theorem cn_outer0 (cA : ClassId) (N h : Nat) : ∀ i, Jvm.Free.Multi.outerC cA N h i = arrV cA N (fun j => if j < i then .ref (h + 1 + j) else .null)
  | 0 => by
    show ({ cls := cA, slots := Array.replicate N .null, vm := .none } : Cell) = _
    rw [arrV_new]
    exact cn_arrV (fun j _ => by rw [if_neg (by omega)])
  | i + 1 => by
    show (Jvm.Free.Multi.outerC cA N h i).setSlot i (.ref (h + 1 + i)) = _
    rw [cn_outer0 cA N h i, arrV_store]
    refine cn_arrV (fun j hj => ?_)
    unfold updV
    by_cases z : j = i
    · subst z; rw [if_pos rfl, if_pos (by omega)]
    · rw [if_neg z]
      show (if j < i then Value.ref (h + 1 + j) else Value.null) = _
      by_cases y : j < i
      · rw [if_pos y, if_pos (by omega)]
      · rw [if_neg y, if_neg (by omega)]
theorem cn_outer (cA : ClassId) (N h : Nat) : Jvm.Free.Multi.outerC cA N h N = arrV cA N (fun j => va_rf (some (h + 1 + j))) := by
  rw [cn_outer0]
  exact cn_arrV (fun j hj => by rw [if_pos hj]; rfl)
theorem cn_mna {p : Program} {l : Launch} {e : Env} {R : Room} {s : State} {m : MethodId} {args : Array Value} {below : List Frame} {meth : Method} {c : Code} {cc : ByteArray} {D : va_G} {base : Nat} {cy : Nat → ClassId} {sa : Nat → Nat} {own : String} {Ts : List Cond} {H : Heap} {locs : List Loc} {cells slots : Nat} {Q : State → Prop} {W0 : va_W} {pc : Nat} {ls : Array Slot} {rest : List Value}
    (hx : p.tables.exec = Jvm.exec) (hb : c.code = cc) (hown : s.vm.findClass own = some m.cls) (hts : ∀ w ∈ Ts, w.before args s = true) (hK : cn_K D base cy sa s) (hbp : 0 < base) (hbs : base ≤ s.heap.size) {idx : Nat} (w1 : Cond.classLink own idx "[[I" ∈ Ts) (w2 : Cond.arrayClass .int ∈ Ts)
    {n k : Int32} {N M : Nat} (κo κi : Nat) (S : ab_S) (ho : ab_ar κo = some (3, N)) (hi : ab_ar κi = some (0, M)) (hel : ∀ j, ab_el κo j = (κi, j)) (hnb : ab_nb κo = 1 ∧ ab_nb κi = N) (hne : κi ≠ κo) (hz : ∀ i j, S κi i j = 0) (hn : ¬ n < 0) (hk : ¬ k < 0) (hN : n.toNatClampNeg = N) (hM : k.toNatClampNeg = M) (hb1 : N ≤ 1000) (hb2 : M ≤ 1000)
    (hcells : cells + (1 + N) ≤ R.cells) (hslots : slots + (N + N * M) ≤ R.slots) (hdg : decode cc pc = .ok (.multianewarray idx 2, 4)) (hP : va_P D vwCl W0 H) (hD : va_D (ab_A base) W0) (hS : va_S (ab_A base) s.heap H locs)
    (kk : ∀ (q : Nat) (H1 : Heap), base ≤ q → va_P D vwCl (W0 ++ ab_wl (adG κo κi q) cy S) H1 → va_D (ab_A base) (W0 ++ ab_wl (adG κo κi q) cy S) → va_S (ab_A base) s.heap H1 locs →
      W p l e R s m args below meth c H1 locs (cells + (1 + N)) (slots + (N + N * M)) Q (F0 m (pc + 4) ls (.ref q :: rest))) : W p l e R s m args below meth c H locs cells slots Q (F0 m pc ls (.int k :: .int n :: rest)) := by
  subst hN; subst hM
  have hq : base ≤ H.size := Nat.le_trans hbs hS.1
  intro T hT X
  obtain ⟨vm₁, cA, comp, hW, hfA, hfC, hO, hI, X1, st⟩ := X.multianewarray2F hx (ty := .int) hown (hts _ w1) hK.2.2.2.2.2.2.2.2.1 (hts _ w2) (g := F0 m pc ls (.int k :: .int n :: rest)) rfl (by rw [hb]; exact hdg) rfl hn hk (by omega) (by show _ * 4 ≤ _; omega) (by omega) rfl rfl hcells (by omega)
  obtain ⟨f1, f2, f3, f4⟩ := Jvm.Free.Multi.fill_facts (T.setVm vm₁) cA comp n.toNatClampNeg k.toNatClampNeg (defaultValue .int) n.toNatClampNeg
  have fo := fun (a : Addr) (ha : a < T.heap.size) => Jvm.Free.Multi.fill_old (T.setVm vm₁) cA comp n.toNatClampNeg k.toNatClampNeg (defaultValue .int) (a := a) ha n.toNatClampNeg
  have fi := fun (j : Nat) (hj : j < n.toNatClampNeg) => Jvm.Free.Multi.fill_inner (T.setVm vm₁) cA comp n.toNatClampNeg k.toNatClampNeg (defaultValue .int) n.toNatClampNeg j hj
  generalize hT1 : Jvm.Free.Multi.fill (T.setVm vm₁) cA comp n.toNatClampNeg k.toNatClampNeg (defaultValue .int) n.toNatClampNeg = T1 at *
  have hTs : (T.setVm vm₁).heap = H := hT
  rw [hTs] at f1 f2 fo fi
  rw [hT] at fo
  have eA : cy 3 = cA := Option.some.inj ((cn_find (hK.1.2 3 _ rfl).2).symm.trans hfA)
  have eC : cy 0 = comp := Option.some.inj ((cn_find (hK.1.2 0 _ rfl).2).symm.trans hfC)
  subst eA; subst eC
  rw [cn_outer] at f2
  have hrng : ∀ x, x ∈ ab_ids → adG κo κi H.size x ≠ 0 → (x = (κo, 0) ∧ adG κo κi H.size x = H.size) ∨ (x.1 = κi ∧ x.2 < n.toNatClampNeg ∧ adG κo κi H.size x = H.size + 1 + x.2) := by
    intro x hx hp
    have h1 := cn_ids.mp hx
    obtain ⟨κ, j⟩ := x
    simp only [adG] at hp ⊢ h1
    split at hp
    · rename_i h; subst h
      rw [hnb.1] at h1
      refine Or.inl ⟨by rw [show j = 0 by omega], ?_⟩
      rw [if_pos rfl]
    · rename_i h
      split at hp
      · rename_i h2; subst h2
        rw [hnb.2] at h1
        exact Or.inr ⟨rfl, h1, by rw [if_neg h, if_pos rfl]⟩
      · exact absurd rfl hp
  have e1 : adG κo κi H.size (κo, 0) = H.size := if_pos rfl
  have hP2 : va_P D vwCl (ab_wl (adG κo κi H.size) cy S) T1.heap := cn_wlP.mpr fun x hx hp => by
    rcases hrng x hx hp with ⟨rfl, h⟩ | ⟨h1, h2, h⟩
    · rw [h, ab_enc_ref3 ho]
      show T1.heap[H.size]? = some (arrV (cy 3) _ fun j => va_rf (some (adG κo κi H.size (ab_el κo j))))
      rw [f2]
      congr 1
      refine cn_arrV (fun j hj => ?_)
      rw [hel j]
      simp [adG, hne]
    · obtain ⟨κ, j⟩ := x
      simp only at h1 h2 h
      subst h1
      rw [h, ab_enc_int hi]
      show T1.heap[H.size + 1 + j]? = some (arrV (cy 0) _ fun i => .int (S κ j i))
      rw [fi j h2]
      congr 1
      rw [show (fun i => Value.int (S κ j i)) = fun _ => Value.int 0 from funext fun i => by rw [hz]]
      exact arrV_new (cy 0) _ (.int 0)
  have hD2 : va_D (ab_A H.size) (ab_wl (adG κo κi H.size) cy S) := cn_wlD.mpr ⟨fun x hx y hy hp e => by
    rcases hrng x hx hp with ⟨rfl, h⟩ | ⟨h1, h2, h⟩ <;> rcases hrng y hy (by rw [← e]; exact hp) with ⟨rfl, g⟩ | ⟨g1, g2, g⟩ <;> (try rw [h] at e) <;> (try rw [g] at e)
    · omega
    · omega
    · exact Prod.ext (h1.trans g1.symm) (by omega), fun x hx hp => by
    rcases hrng x hx hp with ⟨rfl, h⟩ | ⟨h1, h2, h⟩ <;> rw [h]
    · exact Nat.le_refl _
    · show H.size ≤ _; omega⟩
  have hkeep : ∀ x : Nat, x < H.size → T1.heap[x]? = H[x]? := fun x hx => fo x hx
  obtain ⟨t, a1, b1⟩ := kk H.size T1.heap hq (cn_Papp.mpr ⟨hP.kept (fun k x hk => hkeep x.1 (hP k x hk).lt), hP2⟩) (cn_Dapp.mpr ⟨hD, hD2.weaken (fun k x _ h => Nat.le_trans hq h), fun x hx y hy => by
    have hlt := (cn_Piff.mp hP x hx).lt
    have hge : H.size ≤ y.1 := (cn_Diff.mp hD2).2 y hy
    omega⟩) ⟨Nat.le_trans hS.1 (by omega), fun x h1 h2 => (hkeep x (Nat.lt_of_lt_of_le h1 hS.1)).trans (hS.2.1 x h1 h2), hS.2.2⟩ T1 rfl (by rw [← Nat.add_assoc, ← Nat.add_assoc]; exact X1)
  refine ⟨t, st t ?_, b1⟩
  rw [hT]
  exact a1
def prM : ab_Ob → Bool := fun o => decide (o.1 = 2) || decide (o.1 = 14) || prT 13 o
theorem prM_cl : cn_clb prM = true := by decide +kernel
theorem prM_e : ∀ o ∈ ab_ids, ([((2 : Nat), (0 : Nat)), (14, 0)].contains o || prT 13 o) = prM o := by decide +kernel
def fsM : List Value := [.null, .null, .int 0]
def rm_X2_init : Room := { frames := 4, cells := 22, slots := 150, locals := 64 }
set_option maxRecDepth 20000 in
theorem cs_X2 (l : Launch) : cn_Sound l yX2_init wsX2_init rm_X2_init 2 fsM (2, 0) prM (fun S => S = cn_S0) := by
  intro D a cy sa
  refine ab_ofx (XC := fun _ _ _ => False) (vx_ofW (cc := cX2_init) (maxL := 1) (ret := none) (by decide) rfl ?_) (fun _ _ _ h => h)
  intro p e s m args below meth c s₁ B hml hout hv
  obtain ⟨rfl, ha0, hat, hK⟩ := hv
  have hx := B.exec
  have hb := B.bytes
  have hr := B.returns
  have hts := atoms_spec (ws := wsX2_init) B.pre
  have hown : s.vm.findClass RX2 = some m.cls := findClass_of_methodNamed B.named
  have hlocks := B.notSynchronized
  have hin0 : meth.name = "<init>" := (name_of_methodNamed B.named B.method).1
  have hlt : a < s.heap.size := hat.lt
  have hbs : a ≤ s.heap.size := Nat.le_of_lt hlt
  have hS : va_S (ab_A a) s.heap s.heap [] := va_S.rf
  have hl := lv_entry ([.ref a]) (n := 1) (Nat.le_of_ble_eq_true rfl)
  rw [lg_entry_eq]
  generalize (lg_sl ([.ref a]) ++ List.replicate (1 - (lg_sl ([.ref a])).length) Slot.unset).toArray = ls at hl ⊢
  have hl : lv_has ls 1 [(0, .ref a)] := hl
  refine lv_aload_n hx hb dX2_init_0 rfl (lv_at hl 0 rfl) ?_
  refine W.objInit hx hb hown (hts (.methodLink RX2 3 objectInit) (by decide +kernel)) (hts (.instanceMethod objectInit) (by decide +kernel)) (hts _ (List.mem_of_getElem? (i := 3) rfl)) rfl (by rw [hml]; exact hl.1) rfl dX2_init_1 (Nat.le_of_ble_eq_true rfl) (Nat.le_of_ble_eq_true rfl) ?_
  refine W.eq (g2 := F0 m 4 ls []) rfl ?_
  have hP : va_P D vwCl ((a, .inr (2, fsM)) :: []) s.heap := cn_Piff.mpr fun q hq => by
    rcases List.mem_cons.mp hq with h | h
    · subst h; exact hat
    · cases h
  have hD : va_D (ab_A a) (((a, .inr (2, fsM)) : Nat × va_E) :: []) := cn_Diff.mpr ⟨by simp, fun q hq => by
    rcases List.mem_cons.mp hq with h | h
    · subst h; exact Nat.le_refl a
    · cases h⟩
  have hc : vwCl[2]? = some (RX2, TX2, 3) := rfl
  have hin : ∀ w ∈ u_ws RX2 TX2 3, w ∈ wsX2_init := fun w h => List.mem_cons_of_mem _ (List.mem_append_right _ h)
  have hin4 : ∀ w ∈ u_ws RX4 TX4 6, w ∈ wsX2_init := fun w h => List.mem_cons_of_mem _ (List.mem_append_left _ (List.mem_append_right _ h))
  refine lv_aload_n hx hb dX2_init_4 rfl (lv_at hl 0 rfl) ?_
  refine cn_new hx hb hml hown hts hK ha0 hbs (cs_X4 l 13 (by omega)) (C := RX4) (T := TX4) (N := 6) rfl tyX4 tyX4_ok (by decide) hin4 (by decide +kernel) (by decide +kernel) (by decide +kernel) rfl gX2_init_X4_init rfl (ic := 11) (by decide +kernel) (by decide +kernel) rfl ⟨by decide +kernel, by decide +kernel, by decide +kernel⟩ (by decide) hl.1 (Nat.le_of_ble_eq_true rfl) dX2_init_5 dX2_init_8 dX2_init_9 (by decide) (by decide) hP hD hS (fun q ad S H1 locs1 hq hro hpr hS0 hP1 hD1 hS1 => ?_)
  subst hS0
  have hcd := hpr.cld (prT_cl 13 (by decide))
  have hP1 : va_P D vwCl ((a, .inr (2, fsM)) :: ab_wl ad cy cn_S0) H1 := hP1
  have hD1 : va_D (ab_A a) (((a, .inr (2, fsM)) : Nat × va_E) :: ab_wl ad cy cn_S0) := hD1
  refine cn_put hx hb hown hts hK hin0 hP1 hD1 hS1 hc hin tyX2 tyX2_ok nmX2 0 (by decide) (Nat.le_of_ble_eq_true rfl) (by decide +kernel) (by decide) ⟨rfl, rfl⟩ dX2_init_12 (fun H2 locs2 hP2 hD2 hS2 => ?_)
  refine lv_aload_n hx hb dX2_init_15 rfl (lv_at hl 0 rfl) ?_
  refine lv_bipush hx hb dX2_init_16 (v := 24) (by decide) ?_
  refine cn_arr hx hb hown hts hK hbs hin0 hP2 hD2 hS2 hc hin tyX2 tyX2_ok nmX2 (aty := .int) 0 rfl rfl (by decide +kernel) rfl (N' := 24) (by decide) (by decide) (by decide) (by decide) (by decide) dX2_init_18 1 (by decide) (Nat.le_of_ble_eq_true rfl) (by decide +kernel) (by decide) (fun q => ⟨rfl, rfl⟩) dX2_init_20 (fun q2 H3 locs3 hq2 hP3 hD3 hS3 => ?_)
  generalize hL : ([((2, 0), a), ((14, 0), q2)] : List (ab_Ob × Nat)) = L
  have hL2 : ∀ p, p ∈ L → p.2 ≠ 0 := by
    intro p hp
    rw [← hL] at hp
    simp only [List.mem_cons, List.not_mem_nil, or_false] at hp
    rcases hp with rfl | rfl <;> simp only <;> omega
  have hL3 : ∀ p, p ∈ L → ad p.1 = 0 := by
    intro p hp
    rw [← hL] at hp
    simp only [List.mem_cons, List.not_mem_nil, or_false] at hp
    rcases hp with rfl | rfl
    · exact hpr.no (o := (2, 0)) (cn_ids.mpr (by decide)) (by decide)
    · exact hpr.no (o := (14, 0)) (cn_ids.mpr (by decide)) (by decide)
  have hpr2 : cn_pr (cn_ad L ad) prM := (hpr.ext hL2).to (fun o ho => by rw [← hL]; exact prM_e o ho)
  have r2 : cn_ad L ad (2, 0) = a := by rw [← hL]; rfl
  have r14 : cn_ad L ad (14, 0) = q2 := by rw [← hL]; rfl
  have r4 : cn_ad L ad (4, 13) = q := by rw [← hL]; exact hro
  have hPm := cn_Piff.mp hP3
  have hat2 : ∀ p, p ∈ L → va_at D vwCl (p.2, ab_enc (cn_ad L ad) cy cn_S0 p.1) H3 := by
    intro p hp
    rw [← hL] at hp
    simp only [List.mem_cons, List.not_mem_nil, or_false] at hp
    rcases hp with rfl | rfl
    · have he : ab_enc (cn_ad L ad) cy cn_S0 (2, 0) = .inr (2, [.ref q, .ref q2, .int 0]) := by
        rw [ab_enc_obj rfl, ← r4, ← r14]; rfl
      show va_at D vwCl (a, ab_enc (cn_ad L ad) cy cn_S0 (2, 0)) H3
      rw [he]
      exact hPm _ List.mem_cons_self
    · exact hPm _ (List.mem_cons_of_mem _ (List.mem_append_right _ List.mem_cons_self))
  have hperm : (([(a, .inr (2, [.ref q, .ref q2, .int 0])), (q2, .inl (cy 0, 24, .inl (fun _ => 0)))] : va_W) ++ ab_wl ad cy cn_S0).Perm ((a, .inr (2, [.ref q, .ref q2, .int 0])) :: (ab_wl ad cy cn_S0 ++ [(q2, .inl (cy 0, 24, .inl (fun _ => 0)))])) := by
    exact List.Perm.cons _ (List.perm_append_comm (l₁ := [_]))
  obtain ⟨hP6, hD6⟩ := cn_ext (L := L) (ad1 := ad) (S1 := cn_S0) (S := cn_S0) (ws := [(a, .inr (2, [.ref q, .ref q2, .int 0])), (q2, .inl (cy 0, 24, .inl (fun _ => 0)))]) hcd hL3 (fun _ _ _ _ _ => rfl) (by rw [← hL]; rfl) hat2 (cn_Pto hP3 (fun x hx => hperm.mem_iff.mp hx)) (cn_Dp hD3 hperm)
  exact cn_ret hx hb hr hlocks r2 hpr2 rfl hP6 hD6 hS3 (by decide) (by decide) dX2_init_23
def prE : ab_Ob → Bool := fun o => decide (o.1 = 3) || (decide (15 ≤ o.1) && decide (o.1 ≤ 19))
theorem prE_cl : cn_clb prE = true := by decide +kernel
theorem prG1_cl : cn_clb (prG 15 16) = true := by decide +kernel
theorem prG2_cl : cn_clb (prG 17 18) = true := by decide +kernel
theorem prE_e : ∀ o ∈ ab_ids, ([((3 : Nat), (0 : Nat)), (19, 0), (19, 1)].contains o || (prG 15 16 o || prG 17 18 o)) = prE o := by decide +kernel
def fsE : List Value := [.null, .null, .null, .null]
def rm_X0_init : Room := { frames := 1, cells := 53, slots := 1322, locals := 30 }
set_option maxRecDepth 20000 in
theorem cs_X0 (l : Launch) : cn_Sound l yX0_init wsX0_init rm_X0_init 0 fsE (3, 0) prE (fun S => S = cn_S0) := by
  intro D a cy sa
  refine ab_ofx (XC := fun _ _ _ => False) (vx_ofW (cc := cX0_init) (maxL := 1) (ret := none) (by decide) rfl ?_) (fun _ _ _ h => h)
  intro p e s m args below meth c s₁ B hml hout hv
  obtain ⟨rfl, ha0, hat, hK⟩ := hv
  have hx := B.exec
  have hb := B.bytes
  have hr := B.returns
  have hts := atoms_spec (ws := wsX0_init) B.pre
  have hown : s.vm.findClass RX0 = some m.cls := findClass_of_methodNamed B.named
  have hlocks := B.notSynchronized
  have hin0 : meth.name = "<init>" := (name_of_methodNamed B.named B.method).1
  have hlt : a < s.heap.size := hat.lt
  have hbs : a ≤ s.heap.size := Nat.le_of_lt hlt
  have hS : va_S (ab_A a) s.heap s.heap [] := va_S.rf
  have hl := lv_entry ([.ref a]) (n := 1) (Nat.le_of_ble_eq_true rfl)
  rw [lg_entry_eq]
  generalize (lg_sl ([.ref a]) ++ List.replicate (1 - (lg_sl ([.ref a])).length) Slot.unset).toArray = ls at hl ⊢
  have hl : lv_has ls 1 [(0, .ref a)] := hl
  refine lv_aload_n hx hb dX0_init_0 rfl (lv_at hl 0 rfl) ?_
  refine W.objInit hx hb hown (hts (.methodLink RX0 3 objectInit) (by decide +kernel)) (hts (.instanceMethod objectInit) (by decide +kernel)) (hts _ (List.mem_of_getElem? (i := 3) rfl)) rfl (by rw [hml]; exact hl.1) rfl dX0_init_1 (Nat.le_of_ble_eq_true rfl) (Nat.le_of_ble_eq_true rfl) ?_
  refine W.eq (g2 := F0 m 4 ls []) rfl ?_
  have hP : va_P D vwCl ((a, .inr (0, fsE)) :: []) s.heap := cn_Piff.mpr fun q hq => by
    rcases List.mem_cons.mp hq with h | h
    · subst h; exact hat
    · cases h
  have hD : va_D (ab_A a) (((a, .inr (0, fsE)) : Nat × va_E) :: []) := cn_Diff.mpr ⟨by simp, fun q hq => by
    rcases List.mem_cons.mp hq with h | h
    · subst h; exact Nat.le_refl a
    · cases h⟩
  have hc : vwCl[0]? = some (RX0, TX0, 4) := rfl
  have hin : ∀ w ∈ u_ws RX0 TX0 4, w ∈ wsX0_init := fun w h => List.mem_cons_of_mem _ (List.mem_append_right _ h)
  refine lv_aload_n hx hb dX0_init_4 rfl (lv_at hl 0 rfl) ?_
  refine lv_bipush hx hb dX0_init_5 (v := 24) (by decide) ?_
  refine lv_bipush hx hb dX0_init_7 (v := 24) (by decide) ?_
  refine cn_mna hx hb hown hts hK ha0 hbs (by decide +kernel) (by decide +kernel) (N := 24) (M := 24) 15 16 cn_S0 rfl rfl (fun _ => rfl) (by decide) (by decide) (fun _ _ => rfl) (by decide) (by decide) (by decide) (by decide) (by decide) (by decide) (by decide) (by decide) dX0_init_9 hP hD hS (fun g1 H1 hg1 hP1 hD1 hS1 => ?_)
  have hP1 : va_P D vwCl ((a, .inr (0, fsE)) :: ab_wl (adG 15 16 g1) cy cn_S0) H1 := hP1
  have hD1 : va_D (ab_A a) (((a, .inr (0, fsE)) : Nat × va_E) :: ab_wl (adG 15 16 g1) cy cn_S0) := hD1
  refine cn_put hx hb hown hts hK hin0 hP1 hD1 hS1 hc hin tyX0 tyX0_ok nmX0 0 (by decide) (Nat.le_of_ble_eq_true rfl) (by decide +kernel) (by decide) ⟨rfl, rfl⟩ dX0_init_13 (fun H2 locs2 hP2 hD2 hS2 => ?_)
  refine lv_aload_n hx hb dX0_init_16 rfl (lv_at hl 0 rfl) ?_
  refine lv_bipush hx hb dX0_init_17 (v := 25) (by decide) ?_
  refine lv_bipush hx hb dX0_init_19 (v := 25) (by decide) ?_
  refine cn_mna hx hb hown hts hK ha0 hbs (by decide +kernel) (by decide +kernel) (N := 25) (M := 25) 17 18 cn_S0 rfl rfl (fun _ => rfl) (by decide) (by decide) (fun _ _ => rfl) (by decide) (by decide) (by decide) (by decide) (by decide) (by decide) (by decide) (by decide) dX0_init_21 hP2 hD2 hS2 (fun g2 H3 hg2 hP3 hD3 hS3 => ?_)
  have hP3 : va_P D vwCl ((a, .inr (0, fsE.set 0 (.ref g1))) :: (ab_wl (adG 15 16 g1) cy cn_S0 ++ ab_wl (adG 17 18 g2) cy cn_S0)) H3 := hP3
  have hD3 : va_D (ab_A a) (((a, .inr (0, fsE.set 0 (.ref g1))) : Nat × va_E) :: (ab_wl (adG 15 16 g1) cy cn_S0 ++ ab_wl (adG 17 18 g2) cy cn_S0)) := hD3
  refine cn_put hx hb hown hts hK hin0 hP3 hD3 hS3 hc hin tyX0 tyX0_ok nmX0 1 (by decide) (Nat.le_of_ble_eq_true rfl) (by decide +kernel) (by decide) ⟨rfl, rfl⟩ dX0_init_25 (fun H4 locs4 hP4 hD4 hS4 => ?_)
  refine lv_aload_n hx hb dX0_init_28 rfl (lv_at hl 0 rfl) ?_
  refine lv_bipush hx hb dX0_init_29 (v := 24) (by decide) ?_
  refine cn_arr hx hb hown hts hK hbs hin0 hP4 hD4 hS4 hc hin tyX0 tyX0_ok nmX0 (aty := .int) 0 rfl rfl (by decide +kernel) rfl (N' := 24) (by decide) (by decide) (by decide) (by decide) (by decide) dX0_init_31 2 (by decide) (Nat.le_of_ble_eq_true rfl) (by decide +kernel) (by decide) (fun q => ⟨rfl, rfl⟩) dX0_init_33 (fun q4 H5 locs5 hq4 hP5 hD5 hS5 => ?_)
  refine lv_aload_n hx hb dX0_init_36 rfl (lv_at hl 0 rfl) ?_
  refine lv_bipush hx hb dX0_init_37 (v := 24) (by decide) ?_
  refine cn_arr hx hb hown hts hK hbs hin0 hP5 hD5 hS5 hc hin tyX0 tyX0_ok nmX0 (aty := .int) 0 rfl rfl (by decide +kernel) rfl (N' := 24) (by decide) (by decide) (by decide) (by decide) (by decide) dX0_init_39 3 (by decide) (Nat.le_of_ble_eq_true rfl) (by decide +kernel) (by decide) (fun q => ⟨rfl, rfl⟩) dX0_init_41 (fun q5 H6 locs6 hq5 hP6 hD6 hS6 => ?_)
  generalize hth : ((a, .inr (0, [.ref g1, .ref g2, .ref q4, .ref q5])) : Nat × va_E) = th
  have hP6 : va_P D vwCl (th :: (ab_wl (adG 15 16 g1) cy cn_S0 ++ ab_wl (adG 17 18 g2) cy cn_S0 ++ [(q4, .inl (cy 0, 24, .inl (fun _ => 0)))] ++ [(q5, .inl (cy 0, 24, .inl (fun _ => 0)))])) H6 := by rw [← hth]; exact hP6
  have hD6 : va_D (ab_A a) (th :: (ab_wl (adG 15 16 g1) cy cn_S0 ++ ab_wl (adG 17 18 g2) cy cn_S0 ++ [(q4, .inl (cy 0, 24, .inl (fun _ => 0)))] ++ [(q5, .inl (cy 0, 24, .inl (fun _ => 0)))])) := by rw [← hth]; exact hD6
  generalize hwG : ab_wl (adG 15 16 g1) cy cn_S0 ++ ab_wl (adG 17 18 g2) cy cn_S0 = wG at hP6 hD6
  have hperm : (([th, (q4, .inl (cy 0, 24, .inl (fun _ => 0))), (q5, .inl (cy 0, 24, .inl (fun _ => 0)))] : va_W) ++ wG).Perm (th :: (wG ++ [(q4, .inl (cy 0, 24, .inl (fun _ => 0)))] ++ [(q5, .inl (cy 0, 24, .inl (fun _ => 0)))])) := by
    rw [List.append_assoc]
    exact List.Perm.cons _ (List.perm_append_comm (l₁ := [_, _]))
  have hP7 := cn_Pto hP6 (fun x hx => hperm.mem_iff.mp hx)
  have hD7 := cn_Dp hD6 hperm
  have hp1 : cn_pr (adG 15 16 g1) (prG 15 16) := adG_pr (by omega)
  have hp2 : cn_pr (adG 17 18 g2) (prG 17 18) := adG_pr (by omega)
  have hdis : ∀ o, o ∈ ab_ids → adG 15 16 g1 o ≠ 0 → adG 17 18 g2 o = 0 := fun o ho h1 => by
    refine Decidable.byContradiction fun h2 => ?_
    have a1 := (hp1 o ho).mp h1
    have a2 := (hp2 o ho).mp h2
    simp only [prG, Bool.or_eq_true, decide_eq_true_eq] at a1 a2
    omega
  rw [← hwG] at hP7 hD7
  obtain ⟨hP8, hD8⟩ := cn_join (hp1.cld prG1_cl) (hp2.cld prG2_cl) hdis (S := cn_S0) (fun _ _ _ _ _ => rfl) (fun _ _ _ _ _ => rfl) hP7 hD7
  have hpr := hp1.or hp2
  have r15 : cn_or (adG 15 16 g1) (adG 17 18 g2) (15, 0) = g1 := cn_or1 (by show g1 ≠ 0; omega)
  have r17 : cn_or (adG 15 16 g1) (adG 17 18 g2) (17, 0) = g2 := cn_or2 rfl
  generalize cn_or (adG 15 16 g1) (adG 17 18 g2) = ad at *
  have hcd : ab_cld ad := hpr.cld (by decide +kernel)
  generalize hL : ([((3, 0), a), ((19, 0), q4), ((19, 1), q5)] : List (ab_Ob × Nat)) = L
  have hL2 : ∀ p, p ∈ L → p.2 ≠ 0 := by
    intro p hp
    rw [← hL] at hp
    simp only [List.mem_cons, List.not_mem_nil, or_false] at hp
    rcases hp with rfl | rfl | rfl <;> simp only <;> omega
  have hL3 : ∀ p, p ∈ L → ad p.1 = 0 := by
    intro p hp
    rw [← hL] at hp
    simp only [List.mem_cons, List.not_mem_nil, or_false] at hp
    rcases hp with rfl | rfl | rfl
    · exact hpr.no (o := (3, 0)) (cn_ids.mpr (by decide)) (by decide)
    · exact hpr.no (o := (19, 0)) (cn_ids.mpr (by decide)) (by decide)
    · exact hpr.no (o := (19, 1)) (cn_ids.mpr (by decide)) (by decide)
  have hpr2 : cn_pr (cn_ad L ad) prE := (hpr.ext hL2).to (fun o ho => by rw [← hL]; exact prE_e o ho)
  have r3 : cn_ad L ad (3, 0) = a := by rw [← hL]; rfl
  have r190 : cn_ad L ad (19, 0) = q4 := by rw [← hL]; rfl
  have r191 : cn_ad L ad (19, 1) = q5 := by rw [← hL]; rfl
  have s15 : cn_ad L ad (15, 0) = g1 := by rw [← hL]; exact r15
  have s17 : cn_ad L ad (17, 0) = g2 := by rw [← hL]; exact r17
  have hPm := cn_Piff.mp hP8
  have hat2 : ∀ p, p ∈ L → va_at D vwCl (p.2, ab_enc (cn_ad L ad) cy cn_S0 p.1) H6 := by
    intro p hp
    rw [← hL] at hp
    simp only [List.mem_cons, List.not_mem_nil, or_false] at hp
    rcases hp with rfl | rfl | rfl
    · have he : (a, ab_enc (cn_ad L ad) cy cn_S0 (3, 0)) = th := by
        rw [← hth, ab_enc_obj rfl, ← r190, ← r191, ← s15, ← s17]; rfl
      show va_at D vwCl (a, ab_enc (cn_ad L ad) cy cn_S0 (3, 0)) H6
      rw [he]
      exact hPm _ List.mem_cons_self
    · exact hPm _ (List.mem_of_getElem? (i := 1) rfl)
    · exact hPm _ (List.mem_of_getElem? (i := 2) rfl)
  obtain ⟨hP9, hD9⟩ := cn_ext (L := L) (ad1 := ad) (S1 := cn_S0) (S := cn_S0) (ws := [th, (q4, .inl (cy 0, 24, .inl (fun _ => 0))), (q5, .inl (cy 0, 24, .inl (fun _ => 0)))]) hcd hL3 (fun _ _ _ _ _ => rfl) (by rw [← hL, ← hth]; rfl) hat2 hP8 hD8
  exact cn_ret hx hb hr hlocks r3 hpr2 rfl hP9 hD9 hS6 (by decide) (by decide) dX0_init_44
