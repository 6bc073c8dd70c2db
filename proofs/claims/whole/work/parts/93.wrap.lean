/-! The law's wrappers: an exception is a number. -/
def wr_K (U : State) : Prop := ∀ E, E < 5 → ∀ E', E' < 5 → E ≠ E' → va_Nc (ab_ex E) (ab_ex E') U
theorem wr_K.moved {u U : State} (hvm : u.vm.Alike U.vm) (h : wr_K u) : wr_K U := fun E h1 E' h2 h3 => (h E h1 E' h2 h3).moved hvm
def wr_Pc (D : va_G) (ad : ab_Ob → Nat) (base : Nat) (cy : Nat → ClassId) (sa : Nat → Nat) (vs : List ab_V) (S : ab_S) : Array Value → State → Prop := va_Pc (vs.map (ab_val ad)) (fun U => ab_oks ad vs ∧ base ≤ U.heap.size ∧ va_P D vwCl (ab_wl ad cy S) U.heap ∧ ab_Kn D ad base cy sa U ∧ wr_K U)
theorem wr_blind (D : va_G) (ad : ab_Ob → Nat) (base : Nat) (cy : Nat → ClassId) (sa : Nat → Nat) (vs : List ab_V) (S : ab_S) : FrameBlind (wr_Pc D ad base cy sa vs S) := by
  intro a U g mk q
  obtain ⟨h1, h2, h3, h4, h5, h6⟩ := q
  exact ⟨h1, h2, h3, h4, ab_Kn.same (u := U) (U := U.calling g mk a) rfl rfl h5, wr_K.moved (u := U) (U := U.calling g mk a) (Vm.Alike.refl _) h6⟩
def wqI (cdl : List (Nat × Int32)) (Qw : Int32 → ab_S → Prop) : ab_Po := fun o S1 => match o with
  | .inl (some x) => Qw 0 (ab_su S1 41 0 0 x)
  | .inl none => True
  | .inr E => ∃ c, (E, c) ∈ cdl ∧ Qw c S1
def wqV (cdl : List (Nat × Int32)) (Qw : Int32 → ab_S → Prop) : ab_Po := fun o S1 => match o with
  | .inl (some _) => True
  | .inl none => Qw 0 S1
  | .inr E => ∃ c, (E, c) ∈ cdl ∧ Qw c S1
theorem wr_set {D : va_G} {cl : List vw_C} {ws : va_W} {n a : Nat} {e e' : va_E} {H : Heap} (h : va_P D cl (ws.set n (a, e)) H) (hn : n < ws.length) (he : va_at D cl (a, e) H → va_at D cl (a, e') H) : va_P D cl (ws.set n (a, e')) H := by
  intro k q hk
  by_cases z : k = n
  · subst z
    rw [List.getElem?_set_self hn] at hk
    cases hk
    exact he (h k (a, e) (List.getElem?_set_self hn))
  · rw [List.getElem?_set_ne (fun e => z e.symm)] at hk
    exact h k q (by rw [List.getElem?_set_ne (fun e => z e.symm)]; exact hk)
section WRP
variable {p : Program} {l : Launch} {e : Env} {R : Room} {s : State} {m : MethodId} {args : Array Value} {below : List Frame} {meth : Method} {c : Code} {cc : ByteArray}
variable {D : va_G} {ad : ab_Ob → Nat} {base : Nat} {cy : Nat → ClassId} {sa : Nat → Nat} {own : String} {Ts : List Cond} {nL : Nat} {H : Heap} {locs : List Loc} {cells slots : Nat} {pc : Nat} {ls : Array Slot}
/-- a method of the abstract machine, called from outside of it -/
theorem wr_run (hx : p.tables.exec = Jvm.exec) (hb : c.code = cc) (hml : c.maxLocals = nL) (hown : s.vm.findClass own = some m.cls) (hts : ∀ w ∈ Ts, w.before args s = true) (hKn : ab_Kn D ad base cy sa s) (hbs : base ≤ s.heap.size) {y : MethodName} {ws ws' : List Cond} {rm : Room} {ri : Nat} {τ : ab_TR} {bytes : ByteArray} {maxL idx n : Nat} {ret : Option FieldType}
    (hso : ab_Sound l y ws rm ri τ) (hG : GoodIn Ts (wsV own idx y.cls y ws)) (o : ab_Ob) (hcls : (vwCl.getD (ab_ci o.1) (RX0, TX0, 0)).1 = y.cls) (hw : ws = Cond.code y bytes maxL ret :: ws') (hnm : y.cls ≠ "java/lang/invoke/MethodHandle" ∧ y.cls ≠ "java/lang/invoke/VarHandle" ∧ (parseMethodDescriptor y.desc).map (fun d => d.parameters.length) = some n) (hRm : rm.frames + 1 ≤ R.frames ∧ 8 + (maxL + 11) + rm.locals ≤ R.locals)
    (ho : o.2 < ab_nb o.1 ∧ ad o ≠ 0) (ha : ab_ar o.1 = none) (as : List ab_V) (oa : ab_oks ad as) (hlen : as.length = n) {rest : List Value} (hr8 : (rest.map fun v => v.category).sum ≤ 8) {S : ab_S} {Q : ab_Po} (hτ : τ (.inr o :: as) S Q) (hP : va_P D vwCl (ab_wl ad cy S) H) (hS : va_S (ab_A base) s.heap H locs) (hls : ls.size = nL) (hd : decode cc pc = .ok (.invokevirtual idx, 3)) (hc : cells + rm.cells ≤ R.cells) (hsl : slots + rm.slots ≤ R.slots) :
    vx_Run p l e R s m args below meth c H locs cells slots rm.cells rm.slots (F0 m pc ls ((as.map (ab_val ad)).reverse ++ .ref (ad o) :: rest)) rest (ab_Qc ri D ad base cy Q (.ref (ad o) :: as.map (ab_val ad)).toArray) (ab_Xc D ad base cy Q) (ab_A base) := by
  have hM := hso D ad base cy sa (.inr o :: as) S Q hτ
  obtain ⟨q, hq⟩ := ab_pos (ad := ad) (κ := o.1) (i := o.2) ho
  have he : (ab_wl ad cy S)[q]? = some (ad o, .inr (ab_ci o.1, (List.range (ab_nf o.1)).map fun f => ab_val ad (ab_fv o.1 f o.2 S))) := by rw [ab_wl_at hq, ab_enc_obj ha]
  have hrv := va_recv hKn.1 hP (ab_cl_at o.1) he
  have hcl : (ab_cl o.1).1 = y.cls := hcls
  rw [show ((ab_cl o.1).1, (ab_cl o.1).2.1, (ab_cl o.1).2.2).1 = y.cls from hcl] at hrv
  exact vx_runV (As := as.map (ab_val ad)) (rest := rest) ⟨hx, hb, hml, hown, hts⟩ hM (cwV n hts hG hw rfl rfl ⟨rfl, hnm⟩ hRm)
    ⟨ab_blind _ _ _ _ _ _ _, hrv, fun U hU hW => ⟨rfl, ab_oks_cons oa ho, by rw [hU]; exact Nat.le_trans hbs hS.1, by rw [hU]; exact hP, ab_Kn.warm hW (by rw [hU]; exact hS.2.1) hKn⟩⟩
    rfl (by rw [List.length_map]; exact hlen) hls rfl (lv_room hr8) hd ⟨hc, hsl⟩
theorem wr_ret {S1 : ab_S} {Qw : Int32 → ab_S → Prop} {r : Int32} {mc ms : Nat} {XC : String → State → State → Prop} (hx : p.tables.exec = Jvm.exec) (hb : c.code = cc) (hr : meth.sig.returnType = some .int) (hlocks : meth.locks = false) (hP : va_P D vwCl (ab_wl ad cy S1) H) (hS : va_S (ab_A base) s.heap H locs) (hq : Qw r S1) (hc1 : cells ≤ mc) (hs1 : slots ≤ ms) (hdg : decode cc pc = .ok (.ireturn, 1)) :
    W p l e R s m args below meth c H locs cells slots (vx_MQ below (va_Qi Qw (ab_B D ad cy) (ab_A base)) XC args s mc ms (ab_A base)) (F0 m pc ls [.int r]) :=
  vx_ret (W.widen hc1 hs1 (W.zret hx hb hr rfl (fun t ht hW => ⟨⟨r, S1, rfl, hq, by show va_P D vwCl _ t.heap; rw [ht]; exact hP⟩, hS.F ht⟩) (fun q hq => hS.2.2 q hq) hdg hlocks))
theorem wr_last {S : ab_S} {Q : State → Prop} {rest : List Value} (hx : p.tables.exec = Jvm.exec) (hb : c.code = cc) (hKn : ab_Kn D ad base cy sa s) (hP : va_P D vwCl (ab_wl ad cy S) H) (hS : va_S (ab_A base) s.heap H locs) (h41 : ad (41, 0) ≠ 0) {r : Int32} (hdg : decode cc pc = .ok (.lastore, 1))
    (kk : ∀ (H1 : Heap) (locs1 : List Loc), va_P D vwCl (ab_wl ad cy (ab_su S 41 0 0 r)) H1 → va_S (ab_A base) s.heap H1 locs1 → W p l e R s m args below meth c H1 locs1 cells slots Q (F0 m (pc + 1) ls rest)) : W p l e R s m args below meth c H locs cells slots Q (F0 m pc ls (.long r.toInt64 :: .int 0 :: .ref (ad (41, 0)) :: rest)) := by
  obtain ⟨q, hq⟩ := ab_pos (ad := ad) (κ := 41) (i := 0) ⟨by decide, h41⟩
  have hlt : q < (ab_wl ad cy S).length := by
    have h1 := (List.getElem?_eq_some_iff.mp hq).1
    unfold ab_wl
    rw [List.length_map]
    exact h1
  refine va_last hx hb hKn.1 hP (ab_D hKn.2.1.1) hS q 4 (f := fun _ => (S 41 0 0).toInt64) (n := 1) (by rw [ab_wl_at hq]; rfl) rfl (pk_in 0 1 (by omega)) hdg (fun H1 locs1 hP1 hD1 hS1 => kk H1 locs1 ?_ hS1)
  unfold ab_su
  rw [← ab_set (f := upd (S 41 0) 0 r) hq rfl]
  refine wr_set hP1 hlt (fun h => ?_)
  rw [sb_cl0] at h
  have h : H1[ad (41, 0)]? = some (arrV (cy 4) 1 fun j => .long (vp_updL (fun _ => (S 41 0 0).toInt64) 0 r.toInt64 j)) := h
  show H1[ad (41, 0)]? = some (arrV (cy 4) 1 fun _ => .long ((ab_sr S 41 0 (upd (S 41 0) 0 r) 41 0 0).toInt64))
  rw [h]
  congr 1
end WRP
def rmL_insert : Room := { frames := 8, cells := 4, slots := 24, locals := 135 }
def cdl_insert : List (Nat × Int32) := [(0, 1), (1, 2), (2, 3), (3, 4)]
set_option maxRecDepth 20000 in
theorem wr_insert (l : Launch) (hlt : l.stackTraces = false) (D : va_G) (ad : ab_Ob → Nat) (base : Nat) (cy : Nat → ClassId) (sa : Nat → Nat) (x1 x2 x3 : Int32) (S : ab_S) (Qw : Int32 → ab_S → Prop) (hτ : Sp_X5_insert [.inr (0, 0), .inl x1, .inl x2, .inl x3] S (wqI cdl_insert Qw)) : Met l yL_insert wsL_insert rmL_insert (wr_Pc D ad base cy sa [.inr (0, 0), .inl x1, .inl x2, .inl x3, .inr (41, 0)] S) (va_Qi Qw (ab_B D ad cy) (ab_A base)) rmL_insert.cells rmL_insert.slots (ab_A base) := by
  refine ab_ofx (XC := fun _ _ _ => False) (vx_ofWH (cc := cL_insert) (maxL := 6) (ret := some .int) (by decide) rfl ?_) (fun _ _ _ h => h)
  intro p e s m args below meth c s₁ B hml hv
  obtain ⟨rfl, hoks, hbs, hP, hKn, hwK⟩ := hv
  have hx := B.exec
  have hb := B.bytes
  have hr := B.returns
  have hts := atoms_spec (ws := wsL_insert) B.pre
  have hown : s.vm.findClass RL = some m.cls := findClass_of_methodNamed B.named
  have hlocks := B.notSynchronized
  have hT : c.exceptionTable.toList = tableOf [(0, 12, 15, 13), (0, 12, 19, 15), (0, 12, 23, 17), (0, 12, 27, 19)] := vx_table (x := yL_insert) B (hts _ List.mem_cons_self)
  have h00 : (0 : Nat) < ab_nb 0 ∧ ad (0, 0) ≠ 0 := hoks (.inr (0, 0)) (by simp)
  have h41 : ad (41, 0) ≠ 0 := (hoks (.inr (41, 0)) (by simp) : _ ∧ _).2
  have hS : va_S (ab_A base) s.heap s.heap [] := va_S.rf
  have hl := lv_entry ([.ref (ad (0, 0)), .int x1, .int x2, .int x3, .ref (ad (41, 0))]) (n := 6) (Nat.le_of_ble_eq_true rfl)
  show W _ _ _ _ _ _ _ _ _ _ _ _ _ _ _ (entryFrame m ([.ref (ad (0, 0)), .int x1, .int x2, .int x3, .ref (ad (41, 0))] : List Value).toArray 6)
  rw [lg_entry_eq]
  generalize (lg_sl ([.ref (ad (0, 0)), .int x1, .int x2, .int x3, .ref (ad (41, 0))]) ++ List.replicate (6 - (lg_sl ([.ref (ad (0, 0)), .int x1, .int x2, .int x3, .ref (ad (41, 0))])).length) Slot.unset).toArray = ls at hl ⊢
  have hl : lv_has ls 6 [(0, .ref (ad (0, 0))), (1, .int x1), (2, .int x2), (3, .int x3), (4, .ref (ad (41, 0)))] := hl
  refine lv_aload hx hb dL_insert_0 (lv_at hl 4 rfl) ?_
  refine lv_iconst hx hb dL_insert_2 (v := 0) (by decide) ?_
  refine lv_aload_n hx hb dL_insert_3 rfl (lv_at hl 0 rfl) ?_
  refine lv_iload_n hx hb dL_insert_4 rfl (lv_at hl 1 rfl) ?_
  refine lv_iload_n hx hb dL_insert_5 rfl (lv_at hl 2 rfl) ?_
  refine lv_iload_n hx hb dL_insert_6 rfl (lv_at hl 3 rfl) ?_
  have hrun := wr_run (R := (headSpec wsL_insert rmL_insert).room) (n := 3) (rest := [.int 0, .ref (ad (41, 0))]) (locs := []) (cells := 0) (slots := 0) (below := below) (e := e) (meth := meth) (ls := ls) (pc := 7) hx hb hml hown hts hKn hbs (so_X5_insert l hlt) gL_insert_X5_insert (0, 0) rfl rfl ⟨by decide +kernel, by decide +kernel, by decide +kernel⟩ (by decide) h00 rfl [.inl x1, .inl x2, .inl x3] (by intro v hv; simp only [List.mem_cons, List.not_mem_nil, or_false] at hv; rcases hv with rfl | rfl | rfl <;> exact trivial) rfl (Nat.le_of_ble_eq_true rfl) hτ hP hS hl.1 dL_insert_7 (by decide) (by decide)
  refine vx_calli (a := #[]) (S := ab_S) (SX := ab_S × Nat) hrun hS (fun q _ h => h) (fun q h => h) (fun q _ h => h) (fun E ce q9 u t H1 locs1 ht _ hpx hB _ _ hS1 hce hcv1 hcl1 => ?_) (fun r u t H1 locs1 ht _ hp hB _ _ hS1 => ?_)
  · obtain ⟨cv, hcode, hq⟩ := hpx
    obtain ⟨rfl, hB2⟩ := hB
    have hP1 : va_P D vwCl (ab_wl ad cy u.1) H1 := by rw [← ht]; exact hB2
    obtain ⟨S1, En⟩ := u
    simp only [cdl_insert, List.mem_cons, List.not_mem_nil, or_false, Prod.mk.injEq] at hcode
    rcases hcode with ⟨rfl, rfl⟩ | ⟨rfl, rfl⟩ | ⟨rfl, rfl⟩ | ⟨rfl, rfl⟩
    · refine vx_catch (own := RL) (name := ab_ex 0) hown ([] : List ExceptionTableEntry) ⟨0, 12, 15, 13⟩ [⟨0, 12, 19, 15⟩, ⟨0, 12, 23, 17⟩, ⟨0, 12, 27, 19⟩] (by rw [hT]; rfl) ?_ (by decide) (by decide) (hts (.classLink RL 13 (ab_ex 0)) (by decide +kernel)) (va_Nw.use rfl (hKn.2.2.2.2.2.2.2 0 (by decide))) hce hcv1 hcl1 ?_
      · intro z hz
        cases hz
      · refine W.eq (g2 := F0 m 15 ls [.ref q9]) rfl ?_
        refine lv_astore hx hb dL_insert_15 hl (by decide) rfl (fun ls2 hl2 => ?_)
        refine lv_iconst hx hb dL_insert_17 (v := 1) (by decide) ?_
        exact wr_ret hx hb hr hlocks hP1 hS1 hq (by decide) (by decide) dL_insert_18
    · refine vx_catch (own := RL) (name := ab_ex 1) hown ([⟨0, 12, 15, 13⟩] : List ExceptionTableEntry) ⟨0, 12, 19, 15⟩ [⟨0, 12, 23, 17⟩, ⟨0, 12, 27, 19⟩] (by rw [hT]; rfl) ?_ (by decide) (by decide) (hts (.classLink RL 15 (ab_ex 1)) (by decide +kernel)) (va_Nw.use rfl (hKn.2.2.2.2.2.2.2 1 (by decide))) hce hcv1 hcl1 ?_
      · intro z hz
        simp only [List.mem_cons, List.not_mem_nil, or_false] at hz
        rcases hz with rfl
        · exact Or.inr ⟨by decide, ab_ex 0, hts (.classLink RL 13 (ab_ex 0)) (by decide +kernel), hwK 1 (by decide) 0 (by decide) (by decide)⟩
      · refine W.eq (g2 := F0 m 19 ls [.ref q9]) rfl ?_
        refine lv_astore hx hb dL_insert_19 hl (by decide) rfl (fun ls2 hl2 => ?_)
        refine lv_iconst hx hb dL_insert_21 (v := 2) (by decide) ?_
        exact wr_ret hx hb hr hlocks hP1 hS1 hq (by decide) (by decide) dL_insert_22
    · refine vx_catch (own := RL) (name := ab_ex 2) hown ([⟨0, 12, 15, 13⟩, ⟨0, 12, 19, 15⟩] : List ExceptionTableEntry) ⟨0, 12, 23, 17⟩ [⟨0, 12, 27, 19⟩] (by rw [hT]; rfl) ?_ (by decide) (by decide) (hts (.classLink RL 17 (ab_ex 2)) (by decide +kernel)) (va_Nw.use rfl (hKn.2.2.2.2.2.2.2 2 (by decide))) hce hcv1 hcl1 ?_
      · intro z hz
        simp only [List.mem_cons, List.not_mem_nil, or_false] at hz
        rcases hz with rfl | rfl
        · exact Or.inr ⟨by decide, ab_ex 0, hts (.classLink RL 13 (ab_ex 0)) (by decide +kernel), hwK 2 (by decide) 0 (by decide) (by decide)⟩
        · exact Or.inr ⟨by decide, ab_ex 1, hts (.classLink RL 15 (ab_ex 1)) (by decide +kernel), hwK 2 (by decide) 1 (by decide) (by decide)⟩
      · refine W.eq (g2 := F0 m 23 ls [.ref q9]) rfl ?_
        refine lv_astore hx hb dL_insert_23 hl (by decide) rfl (fun ls2 hl2 => ?_)
        refine lv_iconst hx hb dL_insert_25 (v := 3) (by decide) ?_
        exact wr_ret hx hb hr hlocks hP1 hS1 hq (by decide) (by decide) dL_insert_26
    · refine vx_catch (own := RL) (name := ab_ex 3) hown ([⟨0, 12, 15, 13⟩, ⟨0, 12, 19, 15⟩, ⟨0, 12, 23, 17⟩] : List ExceptionTableEntry) ⟨0, 12, 27, 19⟩ [] (by rw [hT]; rfl) ?_ (by decide) (by decide) (hts (.classLink RL 19 (ab_ex 3)) (by decide +kernel)) (va_Nw.use rfl (hKn.2.2.2.2.2.2.2 3 (by decide))) hce hcv1 hcl1 ?_
      · intro z hz
        simp only [List.mem_cons, List.not_mem_nil, or_false] at hz
        rcases hz with rfl | rfl | rfl
        · exact Or.inr ⟨by decide, ab_ex 0, hts (.classLink RL 13 (ab_ex 0)) (by decide +kernel), hwK 3 (by decide) 0 (by decide) (by decide)⟩
        · exact Or.inr ⟨by decide, ab_ex 1, hts (.classLink RL 15 (ab_ex 1)) (by decide +kernel), hwK 3 (by decide) 1 (by decide) (by decide)⟩
        · exact Or.inr ⟨by decide, ab_ex 2, hts (.classLink RL 17 (ab_ex 2)) (by decide +kernel), hwK 3 (by decide) 2 (by decide) (by decide)⟩
      · refine W.eq (g2 := F0 m 27 ls [.ref q9]) rfl ?_
        refine lv_astore hx hb dL_insert_27 hl (by decide) rfl (fun ls2 hl2 => ?_)
        refine lv_iconst hx hb dL_insert_29 (v := 4) (by decide) ?_
        exact wr_ret hx hb hr hlocks hP1 hS1 hq (by decide) (by decide) dL_insert_30
  · have hP1 : va_P D vwCl (ab_wl ad cy u) H1 := by rw [← ht]; exact hB
    refine lv_i2l hx hb dL_insert_10 rfl ?_
    refine wr_last hx hb hKn hP1 hS1 h41 dL_insert_11 (fun H2 locs2 hP2 hS2 => ?_)
    refine lv_goto hx hb dL_insert_12 (tgt := 31) (by decide) ?_
    refine lv_iconst hx hb dL_insert_31 (v := 0) (by decide) ?_
    exact wr_ret hx hb hr hlocks hP2 hS2 hp (by decide) (by decide) dL_insert_32
def rmL_delete : Room := { frames := 8, cells := 2, slots := 12, locals := 132 }
def cdl_delete : List (Nat × Int32) := [(0, 1), (2, 2)]
set_option maxRecDepth 20000 in
theorem wr_delete (l : Launch) (hlt : l.stackTraces = false) (D : va_G) (ad : ab_Ob → Nat) (base : Nat) (cy : Nat → ClassId) (sa : Nat → Nat) (x1 : Int32) (S : ab_S) (Qw : Int32 → ab_S → Prop) (hτ : Sp_X5_delete [.inr (0, 0), .inl x1] S (wqI cdl_delete Qw)) : Met l yL_delete wsL_delete rmL_delete (wr_Pc D ad base cy sa [.inr (0, 0), .inl x1, .inr (41, 0)] S) (va_Qi Qw (ab_B D ad cy) (ab_A base)) rmL_delete.cells rmL_delete.slots (ab_A base) := by
  refine ab_ofx (XC := fun _ _ _ => False) (vx_ofWH (cc := cL_delete) (maxL := 4) (ret := some .int) (by decide) rfl ?_) (fun _ _ _ h => h)
  intro p e s m args below meth c s₁ B hml hv
  obtain ⟨rfl, hoks, hbs, hP, hKn, hwK⟩ := hv
  have hx := B.exec
  have hb := B.bytes
  have hr := B.returns
  have hts := atoms_spec (ws := wsL_delete) B.pre
  have hown : s.vm.findClass RL = some m.cls := findClass_of_methodNamed B.named
  have hlocks := B.notSynchronized
  have hT : c.exceptionTable.toList = tableOf [(0, 9, 12, 13), (0, 9, 15, 17)] := vx_table (x := yL_delete) B (hts _ List.mem_cons_self)
  have h00 : (0 : Nat) < ab_nb 0 ∧ ad (0, 0) ≠ 0 := hoks (.inr (0, 0)) (by simp)
  have h41 : ad (41, 0) ≠ 0 := (hoks (.inr (41, 0)) (by simp) : _ ∧ _).2
  have hS : va_S (ab_A base) s.heap s.heap [] := va_S.rf
  have hl := lv_entry ([.ref (ad (0, 0)), .int x1, .ref (ad (41, 0))]) (n := 4) (Nat.le_of_ble_eq_true rfl)
  show W _ _ _ _ _ _ _ _ _ _ _ _ _ _ _ (entryFrame m ([.ref (ad (0, 0)), .int x1, .ref (ad (41, 0))] : List Value).toArray 4)
  rw [lg_entry_eq]
  generalize (lg_sl ([.ref (ad (0, 0)), .int x1, .ref (ad (41, 0))]) ++ List.replicate (4 - (lg_sl ([.ref (ad (0, 0)), .int x1, .ref (ad (41, 0))])).length) Slot.unset).toArray = ls at hl ⊢
  have hl : lv_has ls 4 [(0, .ref (ad (0, 0))), (1, .int x1), (2, .ref (ad (41, 0)))] := hl
  refine lv_aload_n hx hb dL_delete_0 rfl (lv_at hl 2 rfl) ?_
  refine lv_iconst hx hb dL_delete_1 (v := 0) (by decide) ?_
  refine lv_aload_n hx hb dL_delete_2 rfl (lv_at hl 0 rfl) ?_
  refine lv_iload_n hx hb dL_delete_3 rfl (lv_at hl 1 rfl) ?_
  have hrun := wr_run (R := (headSpec wsL_delete rmL_delete).room) (n := 1) (rest := [.int 0, .ref (ad (41, 0))]) (locs := []) (cells := 0) (slots := 0) (below := below) (e := e) (meth := meth) (ls := ls) (pc := 4) hx hb hml hown hts hKn hbs (so_X5_delete l hlt) gL_delete_X5_delete (0, 0) rfl rfl ⟨by decide +kernel, by decide +kernel, by decide +kernel⟩ (by decide) h00 rfl [.inl x1] (by intro v hv; simp only [List.mem_cons, List.not_mem_nil, or_false] at hv; rcases hv with rfl <;> exact trivial) rfl (Nat.le_of_ble_eq_true rfl) hτ hP hS hl.1 dL_delete_4 (by decide) (by decide)
  refine vx_calli (a := #[]) (S := ab_S) (SX := ab_S × Nat) hrun hS (fun q _ h => h) (fun q h => h) (fun q _ h => h) (fun E ce q9 u t H1 locs1 ht _ hpx hB _ _ hS1 hce hcv1 hcl1 => ?_) (fun r u t H1 locs1 ht _ hp hB _ _ hS1 => ?_)
  · obtain ⟨cv, hcode, hq⟩ := hpx
    obtain ⟨rfl, hB2⟩ := hB
    have hP1 : va_P D vwCl (ab_wl ad cy u.1) H1 := by rw [← ht]; exact hB2
    obtain ⟨S1, En⟩ := u
    simp only [cdl_delete, List.mem_cons, List.not_mem_nil, or_false, Prod.mk.injEq] at hcode
    rcases hcode with ⟨rfl, rfl⟩ | ⟨rfl, rfl⟩
    · refine vx_catch (own := RL) (name := ab_ex 0) hown ([] : List ExceptionTableEntry) ⟨0, 9, 12, 13⟩ [⟨0, 9, 15, 17⟩] (by rw [hT]; rfl) ?_ (by decide) (by decide) (hts (.classLink RL 13 (ab_ex 0)) (by decide +kernel)) (va_Nw.use rfl (hKn.2.2.2.2.2.2.2 0 (by decide))) hce hcv1 hcl1 ?_
      · intro z hz
        cases hz
      · refine W.eq (g2 := F0 m 12 ls [.ref q9]) rfl ?_
        refine lv_astore_n hx hb dL_delete_12 rfl hl (by decide) rfl (fun ls2 hl2 => ?_)
        refine lv_iconst hx hb dL_delete_13 (v := 1) (by decide) ?_
        exact wr_ret hx hb hr hlocks hP1 hS1 hq (by decide) (by decide) dL_delete_14
    · refine vx_catch (own := RL) (name := ab_ex 2) hown ([⟨0, 9, 12, 13⟩] : List ExceptionTableEntry) ⟨0, 9, 15, 17⟩ [] (by rw [hT]; rfl) ?_ (by decide) (by decide) (hts (.classLink RL 17 (ab_ex 2)) (by decide +kernel)) (va_Nw.use rfl (hKn.2.2.2.2.2.2.2 2 (by decide))) hce hcv1 hcl1 ?_
      · intro z hz
        simp only [List.mem_cons, List.not_mem_nil, or_false] at hz
        rcases hz with rfl
        · exact Or.inr ⟨by decide, ab_ex 0, hts (.classLink RL 13 (ab_ex 0)) (by decide +kernel), hwK 2 (by decide) 0 (by decide) (by decide)⟩
      · refine W.eq (g2 := F0 m 15 ls [.ref q9]) rfl ?_
        refine lv_astore_n hx hb dL_delete_15 rfl hl (by decide) rfl (fun ls2 hl2 => ?_)
        refine lv_iconst hx hb dL_delete_16 (v := 2) (by decide) ?_
        exact wr_ret hx hb hr hlocks hP1 hS1 hq (by decide) (by decide) dL_delete_17
  · have hP1 : va_P D vwCl (ab_wl ad cy u) H1 := by rw [← ht]; exact hB
    refine lv_i2l hx hb dL_delete_7 rfl ?_
    refine wr_last hx hb hKn hP1 hS1 h41 dL_delete_8 (fun H2 locs2 hP2 hS2 => ?_)
    refine lv_goto hx hb dL_delete_9 (tgt := 18) (by decide) ?_
    refine lv_iconst hx hb dL_delete_18 (v := 0) (by decide) ?_
    exact wr_ret hx hb hr hlocks hP2 hS2 hp (by decide) (by decide) dL_delete_19
def rmL_move : Room := { frames := 8, cells := 4, slots := 24, locals := 134 }
def cdl_move : List (Nat × Int32) := [(0, 1), (2, 2), (1, 3)]
set_option maxRecDepth 20000 in
theorem wr_move (l : Launch) (hlt : l.stackTraces = false) (D : va_G) (ad : ab_Ob → Nat) (base : Nat) (cy : Nat → ClassId) (sa : Nat → Nat) (x1 x2 x3 : Int32) (S : ab_S) (Qw : Int32 → ab_S → Prop) (hτ : Sp_X5_move [.inr (0, 0), .inl x1, .inl x2, .inl x3] S (wqV cdl_move Qw)) : Met l yL_move wsL_move rmL_move (wr_Pc D ad base cy sa [.inr (0, 0), .inl x1, .inl x2, .inl x3] S) (va_Qi Qw (ab_B D ad cy) (ab_A base)) rmL_move.cells rmL_move.slots (ab_A base) := by
  refine ab_ofx (XC := fun _ _ _ => False) (vx_ofWH (cc := cL_move) (maxL := 5) (ret := some .int) (by decide) rfl ?_) (fun _ _ _ h => h)
  intro p e s m args below meth c s₁ B hml hv
  obtain ⟨rfl, hoks, hbs, hP, hKn, hwK⟩ := hv
  have hx := B.exec
  have hb := B.bytes
  have hr := B.returns
  have hts := atoms_spec (ws := wsL_move) B.pre
  have hown : s.vm.findClass RL = some m.cls := findClass_of_methodNamed B.named
  have hlocks := B.notSynchronized
  have hT : c.exceptionTable.toList = tableOf [(0, 7, 10, 13), (0, 7, 14, 17), (0, 7, 18, 15)] := vx_table (x := yL_move) B (hts _ List.mem_cons_self)
  have h00 : (0 : Nat) < ab_nb 0 ∧ ad (0, 0) ≠ 0 := hoks (.inr (0, 0)) (by simp)
  have hS : va_S (ab_A base) s.heap s.heap [] := va_S.rf
  have hl := lv_entry ([.ref (ad (0, 0)), .int x1, .int x2, .int x3]) (n := 5) (Nat.le_of_ble_eq_true rfl)
  show W _ _ _ _ _ _ _ _ _ _ _ _ _ _ _ (entryFrame m ([.ref (ad (0, 0)), .int x1, .int x2, .int x3] : List Value).toArray 5)
  rw [lg_entry_eq]
  generalize (lg_sl ([.ref (ad (0, 0)), .int x1, .int x2, .int x3]) ++ List.replicate (5 - (lg_sl ([.ref (ad (0, 0)), .int x1, .int x2, .int x3])).length) Slot.unset).toArray = ls at hl ⊢
  have hl : lv_has ls 5 [(0, .ref (ad (0, 0))), (1, .int x1), (2, .int x2), (3, .int x3)] := hl
  refine lv_aload_n hx hb dL_move_0 rfl (lv_at hl 0 rfl) ?_
  refine lv_iload_n hx hb dL_move_1 rfl (lv_at hl 1 rfl) ?_
  refine lv_iload_n hx hb dL_move_2 rfl (lv_at hl 2 rfl) ?_
  refine lv_iload_n hx hb dL_move_3 rfl (lv_at hl 3 rfl) ?_
  have hrun := wr_run (R := (headSpec wsL_move rmL_move).room) (n := 3) (rest := []) (locs := []) (cells := 0) (slots := 0) (below := below) (e := e) (meth := meth) (ls := ls) (pc := 4) hx hb hml hown hts hKn hbs (so_X5_move l hlt) gL_move_X5_move (0, 0) rfl rfl ⟨by decide +kernel, by decide +kernel, by decide +kernel⟩ (by decide) h00 rfl [.inl x1, .inl x2, .inl x3] (by intro v hv; simp only [List.mem_cons, List.not_mem_nil, or_false] at hv; rcases hv with rfl | rfl | rfl <;> exact trivial) rfl (Nat.le_of_ble_eq_true rfl) hτ hP hS hl.1 dL_move_4 (by decide) (by decide)
  refine vx_callv (a := #[]) (S := ab_S) (SX := ab_S × Nat) hrun hS (fun q _ h => h) (fun q h => h) (fun q _ h => h) (fun E ce q9 u t H1 locs1 ht _ hpx hB _ _ hS1 hce hcv1 hcl1 => ?_) (fun u t H1 locs1 ht _ hp hB _ _ hS1 => ?_)
  · obtain ⟨cv, hcode, hq⟩ := hpx
    obtain ⟨rfl, hB2⟩ := hB
    have hP1 : va_P D vwCl (ab_wl ad cy u.1) H1 := by rw [← ht]; exact hB2
    obtain ⟨S1, En⟩ := u
    simp only [cdl_move, List.mem_cons, List.not_mem_nil, or_false, Prod.mk.injEq] at hcode
    rcases hcode with ⟨rfl, rfl⟩ | ⟨rfl, rfl⟩ | ⟨rfl, rfl⟩
    · refine vx_catch (own := RL) (name := ab_ex 0) hown ([] : List ExceptionTableEntry) ⟨0, 7, 10, 13⟩ [⟨0, 7, 14, 17⟩, ⟨0, 7, 18, 15⟩] (by rw [hT]; rfl) ?_ (by decide) (by decide) (hts (.classLink RL 13 (ab_ex 0)) (by decide +kernel)) (va_Nw.use rfl (hKn.2.2.2.2.2.2.2 0 (by decide))) hce hcv1 hcl1 ?_
      · intro z hz
        cases hz
      · refine W.eq (g2 := F0 m 10 ls [.ref q9]) rfl ?_
        refine lv_astore hx hb dL_move_10 hl (by decide) rfl (fun ls2 hl2 => ?_)
        refine lv_iconst hx hb dL_move_12 (v := 1) (by decide) ?_
        exact wr_ret hx hb hr hlocks hP1 hS1 hq (by decide) (by decide) dL_move_13
    · refine vx_catch (own := RL) (name := ab_ex 2) hown ([⟨0, 7, 10, 13⟩] : List ExceptionTableEntry) ⟨0, 7, 14, 17⟩ [⟨0, 7, 18, 15⟩] (by rw [hT]; rfl) ?_ (by decide) (by decide) (hts (.classLink RL 17 (ab_ex 2)) (by decide +kernel)) (va_Nw.use rfl (hKn.2.2.2.2.2.2.2 2 (by decide))) hce hcv1 hcl1 ?_
      · intro z hz
        simp only [List.mem_cons, List.not_mem_nil, or_false] at hz
        rcases hz with rfl
        · exact Or.inr ⟨by decide, ab_ex 0, hts (.classLink RL 13 (ab_ex 0)) (by decide +kernel), hwK 2 (by decide) 0 (by decide) (by decide)⟩
      · refine W.eq (g2 := F0 m 14 ls [.ref q9]) rfl ?_
        refine lv_astore hx hb dL_move_14 hl (by decide) rfl (fun ls2 hl2 => ?_)
        refine lv_iconst hx hb dL_move_16 (v := 2) (by decide) ?_
        exact wr_ret hx hb hr hlocks hP1 hS1 hq (by decide) (by decide) dL_move_17
    · refine vx_catch (own := RL) (name := ab_ex 1) hown ([⟨0, 7, 10, 13⟩, ⟨0, 7, 14, 17⟩] : List ExceptionTableEntry) ⟨0, 7, 18, 15⟩ [] (by rw [hT]; rfl) ?_ (by decide) (by decide) (hts (.classLink RL 15 (ab_ex 1)) (by decide +kernel)) (va_Nw.use rfl (hKn.2.2.2.2.2.2.2 1 (by decide))) hce hcv1 hcl1 ?_
      · intro z hz
        simp only [List.mem_cons, List.not_mem_nil, or_false] at hz
        rcases hz with rfl | rfl
        · exact Or.inr ⟨by decide, ab_ex 0, hts (.classLink RL 13 (ab_ex 0)) (by decide +kernel), hwK 1 (by decide) 0 (by decide) (by decide)⟩
        · exact Or.inr ⟨by decide, ab_ex 2, hts (.classLink RL 17 (ab_ex 2)) (by decide +kernel), hwK 1 (by decide) 2 (by decide) (by decide)⟩
      · refine W.eq (g2 := F0 m 18 ls [.ref q9]) rfl ?_
        refine lv_astore hx hb dL_move_18 hl (by decide) rfl (fun ls2 hl2 => ?_)
        refine lv_iconst hx hb dL_move_20 (v := 3) (by decide) ?_
        exact wr_ret hx hb hr hlocks hP1 hS1 hq (by decide) (by decide) dL_move_21
  · have hP1 : va_P D vwCl (ab_wl ad cy u) H1 := by rw [← ht]; exact hB
    refine lv_goto hx hb dL_move_7 (tgt := 22) (by decide) ?_
    refine lv_iconst hx hb dL_move_22 (v := 0) (by decide) ?_
    exact wr_ret hx hb hr hlocks hP1 hS1 hp (by decide) (by decide) dL_move_23
def rmL_relabel : Room := { frames := 8, cells := 2, slots := 12, locals := 133 }
def cdl_relabel : List (Nat × Int32) := [(0, 1), (2, 2)]
set_option maxRecDepth 20000 in
theorem wr_relabel (l : Launch) (hlt : l.stackTraces = false) (D : va_G) (ad : ab_Ob → Nat) (base : Nat) (cy : Nat → ClassId) (sa : Nat → Nat) (x1 x2 : Int32) (S : ab_S) (Qw : Int32 → ab_S → Prop) (hτ : Sp_X5_relabel [.inr (0, 0), .inl x1, .inl x2] S (wqV cdl_relabel Qw)) : Met l yL_relabel wsL_relabel rmL_relabel (wr_Pc D ad base cy sa [.inr (0, 0), .inl x1, .inl x2] S) (va_Qi Qw (ab_B D ad cy) (ab_A base)) rmL_relabel.cells rmL_relabel.slots (ab_A base) := by
  refine ab_ofx (XC := fun _ _ _ => False) (vx_ofWH (cc := cL_relabel) (maxL := 4) (ret := some .int) (by decide) rfl ?_) (fun _ _ _ h => h)
  intro p e s m args below meth c s₁ B hml hv
  obtain ⟨rfl, hoks, hbs, hP, hKn, hwK⟩ := hv
  have hx := B.exec
  have hb := B.bytes
  have hr := B.returns
  have hts := atoms_spec (ws := wsL_relabel) B.pre
  have hown : s.vm.findClass RL = some m.cls := findClass_of_methodNamed B.named
  have hlocks := B.notSynchronized
  have hT : c.exceptionTable.toList = tableOf [(0, 6, 9, 13), (0, 6, 12, 17)] := vx_table (x := yL_relabel) B (hts _ List.mem_cons_self)
  have h00 : (0 : Nat) < ab_nb 0 ∧ ad (0, 0) ≠ 0 := hoks (.inr (0, 0)) (by simp)
  have hS : va_S (ab_A base) s.heap s.heap [] := va_S.rf
  have hl := lv_entry ([.ref (ad (0, 0)), .int x1, .int x2]) (n := 4) (Nat.le_of_ble_eq_true rfl)
  show W _ _ _ _ _ _ _ _ _ _ _ _ _ _ _ (entryFrame m ([.ref (ad (0, 0)), .int x1, .int x2] : List Value).toArray 4)
  rw [lg_entry_eq]
  generalize (lg_sl ([.ref (ad (0, 0)), .int x1, .int x2]) ++ List.replicate (4 - (lg_sl ([.ref (ad (0, 0)), .int x1, .int x2])).length) Slot.unset).toArray = ls at hl ⊢
  have hl : lv_has ls 4 [(0, .ref (ad (0, 0))), (1, .int x1), (2, .int x2)] := hl
  refine lv_aload_n hx hb dL_relabel_0 rfl (lv_at hl 0 rfl) ?_
  refine lv_iload_n hx hb dL_relabel_1 rfl (lv_at hl 1 rfl) ?_
  refine lv_iload_n hx hb dL_relabel_2 rfl (lv_at hl 2 rfl) ?_
  have hrun := wr_run (R := (headSpec wsL_relabel rmL_relabel).room) (n := 2) (rest := []) (locs := []) (cells := 0) (slots := 0) (below := below) (e := e) (meth := meth) (ls := ls) (pc := 3) hx hb hml hown hts hKn hbs (so_X5_relabel l hlt) gL_relabel_X5_relabel (0, 0) rfl rfl ⟨by decide +kernel, by decide +kernel, by decide +kernel⟩ (by decide) h00 rfl [.inl x1, .inl x2] (by intro v hv; simp only [List.mem_cons, List.not_mem_nil, or_false] at hv; rcases hv with rfl | rfl <;> exact trivial) rfl (Nat.le_of_ble_eq_true rfl) hτ hP hS hl.1 dL_relabel_3 (by decide) (by decide)
  refine vx_callv (a := #[]) (S := ab_S) (SX := ab_S × Nat) hrun hS (fun q _ h => h) (fun q h => h) (fun q _ h => h) (fun E ce q9 u t H1 locs1 ht _ hpx hB _ _ hS1 hce hcv1 hcl1 => ?_) (fun u t H1 locs1 ht _ hp hB _ _ hS1 => ?_)
  · obtain ⟨cv, hcode, hq⟩ := hpx
    obtain ⟨rfl, hB2⟩ := hB
    have hP1 : va_P D vwCl (ab_wl ad cy u.1) H1 := by rw [← ht]; exact hB2
    obtain ⟨S1, En⟩ := u
    simp only [cdl_relabel, List.mem_cons, List.not_mem_nil, or_false, Prod.mk.injEq] at hcode
    rcases hcode with ⟨rfl, rfl⟩ | ⟨rfl, rfl⟩
    · refine vx_catch (own := RL) (name := ab_ex 0) hown ([] : List ExceptionTableEntry) ⟨0, 6, 9, 13⟩ [⟨0, 6, 12, 17⟩] (by rw [hT]; rfl) ?_ (by decide) (by decide) (hts (.classLink RL 13 (ab_ex 0)) (by decide +kernel)) (va_Nw.use rfl (hKn.2.2.2.2.2.2.2 0 (by decide))) hce hcv1 hcl1 ?_
      · intro z hz
        cases hz
      · refine W.eq (g2 := F0 m 9 ls [.ref q9]) rfl ?_
        refine lv_astore_n hx hb dL_relabel_9 rfl hl (by decide) rfl (fun ls2 hl2 => ?_)
        refine lv_iconst hx hb dL_relabel_10 (v := 1) (by decide) ?_
        exact wr_ret hx hb hr hlocks hP1 hS1 hq (by decide) (by decide) dL_relabel_11
    · refine vx_catch (own := RL) (name := ab_ex 2) hown ([⟨0, 6, 9, 13⟩] : List ExceptionTableEntry) ⟨0, 6, 12, 17⟩ [] (by rw [hT]; rfl) ?_ (by decide) (by decide) (hts (.classLink RL 17 (ab_ex 2)) (by decide +kernel)) (va_Nw.use rfl (hKn.2.2.2.2.2.2.2 2 (by decide))) hce hcv1 hcl1 ?_
      · intro z hz
        simp only [List.mem_cons, List.not_mem_nil, or_false] at hz
        rcases hz with rfl
        · exact Or.inr ⟨by decide, ab_ex 0, hts (.classLink RL 13 (ab_ex 0)) (by decide +kernel), hwK 2 (by decide) 0 (by decide) (by decide)⟩
      · refine W.eq (g2 := F0 m 12 ls [.ref q9]) rfl ?_
        refine lv_astore_n hx hb dL_relabel_12 rfl hl (by decide) rfl (fun ls2 hl2 => ?_)
        refine lv_iconst hx hb dL_relabel_13 (v := 2) (by decide) ?_
        exact wr_ret hx hb hr hlocks hP1 hS1 hq (by decide) (by decide) dL_relabel_14
  · have hP1 : va_P D vwCl (ab_wl ad cy u) H1 := by rw [← ht]; exact hB
    refine lv_goto hx hb dL_relabel_6 (tgt := 15) (by decide) ?_
    refine lv_iconst hx hb dL_relabel_15 (v := 0) (by decide) ?_
    exact wr_ret hx hb hr hlocks hP1 hS1 hp (by decide) (by decide) dL_relabel_16
def rmL_commit : Room := { frames := 7, cells := 1, slots := 6, locals := 110 }
def cdl_commit : List (Nat × Int32) := [(3, 1)]
set_option maxRecDepth 20000 in
theorem wr_commit (l : Launch) (hlt : l.stackTraces = false) (D : va_G) (ad : ab_Ob → Nat) (base : Nat) (cy : Nat → ClassId) (sa : Nat → Nat) (S : ab_S) (Qw : Int32 → ab_S → Prop) (hτ : Sp_X5_commit [.inr (0, 0)] S (wqI cdl_commit Qw)) : Met l yL_commit wsL_commit rmL_commit (wr_Pc D ad base cy sa [.inr (0, 0), .inr (41, 0)] S) (va_Qi Qw (ab_B D ad cy) (ab_A base)) rmL_commit.cells rmL_commit.slots (ab_A base) := by
  refine ab_ofx (XC := fun _ _ _ => False) (vx_ofWH (cc := cL_commit) (maxL := 3) (ret := some .int) (by decide) rfl ?_) (fun _ _ _ h => h)
  intro p e s m args below meth c s₁ B hml hv
  obtain ⟨rfl, hoks, hbs, hP, hKn, hwK⟩ := hv
  have hx := B.exec
  have hb := B.bytes
  have hr := B.returns
  have hts := atoms_spec (ws := wsL_commit) B.pre
  have hown : s.vm.findClass RL = some m.cls := findClass_of_methodNamed B.named
  have hlocks := B.notSynchronized
  have hT : c.exceptionTable.toList = tableOf [(0, 8, 11, 19)] := vx_table (x := yL_commit) B (hts _ List.mem_cons_self)
  have h00 : (0 : Nat) < ab_nb 0 ∧ ad (0, 0) ≠ 0 := hoks (.inr (0, 0)) (by simp)
  have h41 : ad (41, 0) ≠ 0 := (hoks (.inr (41, 0)) (by simp) : _ ∧ _).2
  have hS : va_S (ab_A base) s.heap s.heap [] := va_S.rf
  have hl := lv_entry ([.ref (ad (0, 0)), .ref (ad (41, 0))]) (n := 3) (Nat.le_of_ble_eq_true rfl)
  show W _ _ _ _ _ _ _ _ _ _ _ _ _ _ _ (entryFrame m ([.ref (ad (0, 0)), .ref (ad (41, 0))] : List Value).toArray 3)
  rw [lg_entry_eq]
  generalize (lg_sl ([.ref (ad (0, 0)), .ref (ad (41, 0))]) ++ List.replicate (3 - (lg_sl ([.ref (ad (0, 0)), .ref (ad (41, 0))])).length) Slot.unset).toArray = ls at hl ⊢
  have hl : lv_has ls 3 [(0, .ref (ad (0, 0))), (1, .ref (ad (41, 0)))] := hl
  refine lv_aload_n hx hb dL_commit_0 rfl (lv_at hl 1 rfl) ?_
  refine lv_iconst hx hb dL_commit_1 (v := 0) (by decide) ?_
  refine lv_aload_n hx hb dL_commit_2 rfl (lv_at hl 0 rfl) ?_
  have hrun := wr_run (R := (headSpec wsL_commit rmL_commit).room) (n := 0) (rest := [.int 0, .ref (ad (41, 0))]) (locs := []) (cells := 0) (slots := 0) (below := below) (e := e) (meth := meth) (ls := ls) (pc := 3) hx hb hml hown hts hKn hbs (so_X5_commit l hlt) gL_commit_X5_commit (0, 0) rfl rfl ⟨by decide +kernel, by decide +kernel, by decide +kernel⟩ (by decide) h00 rfl [] (fun v hv => absurd hv List.not_mem_nil) rfl (Nat.le_of_ble_eq_true rfl) hτ hP hS hl.1 dL_commit_3 (by decide) (by decide)
  refine vx_calli (a := #[]) (S := ab_S) (SX := ab_S × Nat) hrun hS (fun q _ h => h) (fun q h => h) (fun q _ h => h) (fun E ce q9 u t H1 locs1 ht _ hpx hB _ _ hS1 hce hcv1 hcl1 => ?_) (fun r u t H1 locs1 ht _ hp hB _ _ hS1 => ?_)
  · obtain ⟨cv, hcode, hq⟩ := hpx
    obtain ⟨rfl, hB2⟩ := hB
    have hP1 : va_P D vwCl (ab_wl ad cy u.1) H1 := by rw [← ht]; exact hB2
    obtain ⟨S1, En⟩ := u
    simp only [cdl_commit, List.mem_cons, List.not_mem_nil, or_false, Prod.mk.injEq] at hcode
    rcases hcode with ⟨rfl, rfl⟩
    · refine vx_catch (own := RL) (name := ab_ex 3) hown ([] : List ExceptionTableEntry) ⟨0, 8, 11, 19⟩ [] (by rw [hT]; rfl) ?_ (by decide) (by decide) (hts (.classLink RL 19 (ab_ex 3)) (by decide +kernel)) (va_Nw.use rfl (hKn.2.2.2.2.2.2.2 3 (by decide))) hce hcv1 hcl1 ?_
      · intro z hz
        cases hz
      · refine W.eq (g2 := F0 m 11 ls [.ref q9]) rfl ?_
        refine lv_astore_n hx hb dL_commit_11 rfl hl (by decide) rfl (fun ls2 hl2 => ?_)
        refine lv_iconst hx hb dL_commit_12 (v := 1) (by decide) ?_
        exact wr_ret hx hb hr hlocks hP1 hS1 hq (by decide) (by decide) dL_commit_13
  · have hP1 : va_P D vwCl (ab_wl ad cy u) H1 := by rw [← ht]; exact hB
    refine lv_i2l hx hb dL_commit_6 rfl ?_
    refine wr_last hx hb hKn hP1 hS1 h41 dL_commit_7 (fun H2 locs2 hP2 hS2 => ?_)
    refine lv_goto hx hb dL_commit_8 (tgt := 14) (by decide) ?_
    refine lv_iconst hx hb dL_commit_14 (v := 0) (by decide) ?_
    exact wr_ret hx hb hr hlocks hP2 hS2 hp (by decide) (by decide) dL_commit_15
def rmL_checkout : Room := { frames := 8, cells := 1, slots := 6, locals := 132 }
def cdl_checkout : List (Nat × Int32) := [(0, 1)]
set_option maxRecDepth 20000 in
theorem wr_checkout (l : Launch) (hlt : l.stackTraces = false) (D : va_G) (ad : ab_Ob → Nat) (base : Nat) (cy : Nat → ClassId) (sa : Nat → Nat) (x1 : Int32) (S : ab_S) (Qw : Int32 → ab_S → Prop) (hτ : Sp_X5_checkout [.inr (0, 0), .inl x1] S (wqV cdl_checkout Qw)) : Met l yL_checkout wsL_checkout rmL_checkout (wr_Pc D ad base cy sa [.inr (0, 0), .inl x1] S) (va_Qi Qw (ab_B D ad cy) (ab_A base)) rmL_checkout.cells rmL_checkout.slots (ab_A base) := by
  refine ab_ofx (XC := fun _ _ _ => False) (vx_ofWH (cc := cL_checkout) (maxL := 3) (ret := some .int) (by decide) rfl ?_) (fun _ _ _ h => h)
  intro p e s m args below meth c s₁ B hml hv
  obtain ⟨rfl, hoks, hbs, hP, hKn, hwK⟩ := hv
  have hx := B.exec
  have hb := B.bytes
  have hr := B.returns
  have hts := atoms_spec (ws := wsL_checkout) B.pre
  have hown : s.vm.findClass RL = some m.cls := findClass_of_methodNamed B.named
  have hlocks := B.notSynchronized
  have hT : c.exceptionTable.toList = tableOf [(0, 5, 8, 13)] := vx_table (x := yL_checkout) B (hts _ List.mem_cons_self)
  have h00 : (0 : Nat) < ab_nb 0 ∧ ad (0, 0) ≠ 0 := hoks (.inr (0, 0)) (by simp)
  have hS : va_S (ab_A base) s.heap s.heap [] := va_S.rf
  have hl := lv_entry ([.ref (ad (0, 0)), .int x1]) (n := 3) (Nat.le_of_ble_eq_true rfl)
  show W _ _ _ _ _ _ _ _ _ _ _ _ _ _ _ (entryFrame m ([.ref (ad (0, 0)), .int x1] : List Value).toArray 3)
  rw [lg_entry_eq]
  generalize (lg_sl ([.ref (ad (0, 0)), .int x1]) ++ List.replicate (3 - (lg_sl ([.ref (ad (0, 0)), .int x1])).length) Slot.unset).toArray = ls at hl ⊢
  have hl : lv_has ls 3 [(0, .ref (ad (0, 0))), (1, .int x1)] := hl
  refine lv_aload_n hx hb dL_checkout_0 rfl (lv_at hl 0 rfl) ?_
  refine lv_iload_n hx hb dL_checkout_1 rfl (lv_at hl 1 rfl) ?_
  have hrun := wr_run (R := (headSpec wsL_checkout rmL_checkout).room) (n := 1) (rest := []) (locs := []) (cells := 0) (slots := 0) (below := below) (e := e) (meth := meth) (ls := ls) (pc := 2) hx hb hml hown hts hKn hbs (so_X5_checkout l hlt) gL_checkout_X5_checkout (0, 0) rfl rfl ⟨by decide +kernel, by decide +kernel, by decide +kernel⟩ (by decide) h00 rfl [.inl x1] (by intro v hv; simp only [List.mem_cons, List.not_mem_nil, or_false] at hv; rcases hv with rfl <;> exact trivial) rfl (Nat.le_of_ble_eq_true rfl) hτ hP hS hl.1 dL_checkout_2 (by decide) (by decide)
  refine vx_callv (a := #[]) (S := ab_S) (SX := ab_S × Nat) hrun hS (fun q _ h => h) (fun q h => h) (fun q _ h => h) (fun E ce q9 u t H1 locs1 ht _ hpx hB _ _ hS1 hce hcv1 hcl1 => ?_) (fun u t H1 locs1 ht _ hp hB _ _ hS1 => ?_)
  · obtain ⟨cv, hcode, hq⟩ := hpx
    obtain ⟨rfl, hB2⟩ := hB
    have hP1 : va_P D vwCl (ab_wl ad cy u.1) H1 := by rw [← ht]; exact hB2
    obtain ⟨S1, En⟩ := u
    simp only [cdl_checkout, List.mem_cons, List.not_mem_nil, or_false, Prod.mk.injEq] at hcode
    rcases hcode with ⟨rfl, rfl⟩
    · refine vx_catch (own := RL) (name := ab_ex 0) hown ([] : List ExceptionTableEntry) ⟨0, 5, 8, 13⟩ [] (by rw [hT]; rfl) ?_ (by decide) (by decide) (hts (.classLink RL 13 (ab_ex 0)) (by decide +kernel)) (va_Nw.use rfl (hKn.2.2.2.2.2.2.2 0 (by decide))) hce hcv1 hcl1 ?_
      · intro z hz
        cases hz
      · refine W.eq (g2 := F0 m 8 ls [.ref q9]) rfl ?_
        refine lv_astore_n hx hb dL_checkout_8 rfl hl (by decide) rfl (fun ls2 hl2 => ?_)
        refine lv_iconst hx hb dL_checkout_9 (v := 1) (by decide) ?_
        exact wr_ret hx hb hr hlocks hP1 hS1 hq (by decide) (by decide) dL_checkout_10
  · have hP1 : va_P D vwCl (ab_wl ad cy u) H1 := by rw [← ht]; exact hB
    refine lv_goto hx hb dL_checkout_5 (tgt := 11) (by decide) ?_
    refine lv_iconst hx hb dL_checkout_11 (v := 0) (by decide) ?_
    exact wr_ret hx hb hr hlocks hP1 hS1 hp (by decide) (by decide) dL_checkout_12
def rmL_base : Room := { frames := 8, cells := 2, slots := 12, locals := 133 }
def cdl_base : List (Nat × Int32) := [(0, 1)]
set_option maxRecDepth 20000 in
theorem wr_base (l : Launch) (hlt : l.stackTraces = false) (D : va_G) (ad : ab_Ob → Nat) (base : Nat) (cy : Nat → ClassId) (sa : Nat → Nat) (x1 x2 : Int32) (S : ab_S) (Qw : Int32 → ab_S → Prop) (hτ : Sp_X5_base [.inr (0, 0), .inl x1, .inl x2] S (wqI cdl_base Qw)) : Met l yL_base wsL_base rmL_base (wr_Pc D ad base cy sa [.inr (0, 0), .inl x1, .inl x2, .inr (41, 0)] S) (va_Qi Qw (ab_B D ad cy) (ab_A base)) rmL_base.cells rmL_base.slots (ab_A base) := by
  refine ab_ofx (XC := fun _ _ _ => False) (vx_ofWH (cc := cL_base) (maxL := 5) (ret := some .int) (by decide) rfl ?_) (fun _ _ _ h => h)
  intro p e s m args below meth c s₁ B hml hv
  obtain ⟨rfl, hoks, hbs, hP, hKn, hwK⟩ := hv
  have hx := B.exec
  have hb := B.bytes
  have hr := B.returns
  have hts := atoms_spec (ws := wsL_base) B.pre
  have hown : s.vm.findClass RL = some m.cls := findClass_of_methodNamed B.named
  have hlocks := B.notSynchronized
  have hT : c.exceptionTable.toList = tableOf [(0, 10, 13, 13)] := vx_table (x := yL_base) B (hts _ List.mem_cons_self)
  have h00 : (0 : Nat) < ab_nb 0 ∧ ad (0, 0) ≠ 0 := hoks (.inr (0, 0)) (by simp)
  have h41 : ad (41, 0) ≠ 0 := (hoks (.inr (41, 0)) (by simp) : _ ∧ _).2
  have hS : va_S (ab_A base) s.heap s.heap [] := va_S.rf
  have hl := lv_entry ([.ref (ad (0, 0)), .int x1, .int x2, .ref (ad (41, 0))]) (n := 5) (Nat.le_of_ble_eq_true rfl)
  show W _ _ _ _ _ _ _ _ _ _ _ _ _ _ _ (entryFrame m ([.ref (ad (0, 0)), .int x1, .int x2, .ref (ad (41, 0))] : List Value).toArray 5)
  rw [lg_entry_eq]
  generalize (lg_sl ([.ref (ad (0, 0)), .int x1, .int x2, .ref (ad (41, 0))]) ++ List.replicate (5 - (lg_sl ([.ref (ad (0, 0)), .int x1, .int x2, .ref (ad (41, 0))])).length) Slot.unset).toArray = ls at hl ⊢
  have hl : lv_has ls 5 [(0, .ref (ad (0, 0))), (1, .int x1), (2, .int x2), (3, .ref (ad (41, 0)))] := hl
  refine lv_aload_n hx hb dL_base_0 rfl (lv_at hl 3 rfl) ?_
  refine lv_iconst hx hb dL_base_1 (v := 0) (by decide) ?_
  refine lv_aload_n hx hb dL_base_2 rfl (lv_at hl 0 rfl) ?_
  refine lv_iload_n hx hb dL_base_3 rfl (lv_at hl 1 rfl) ?_
  refine lv_iload_n hx hb dL_base_4 rfl (lv_at hl 2 rfl) ?_
  have hrun := wr_run (R := (headSpec wsL_base rmL_base).room) (n := 2) (rest := [.int 0, .ref (ad (41, 0))]) (locs := []) (cells := 0) (slots := 0) (below := below) (e := e) (meth := meth) (ls := ls) (pc := 5) hx hb hml hown hts hKn hbs (so_X5_base l hlt) gL_base_X5_base (0, 0) rfl rfl ⟨by decide +kernel, by decide +kernel, by decide +kernel⟩ (by decide) h00 rfl [.inl x1, .inl x2] (by intro v hv; simp only [List.mem_cons, List.not_mem_nil, or_false] at hv; rcases hv with rfl | rfl <;> exact trivial) rfl (Nat.le_of_ble_eq_true rfl) hτ hP hS hl.1 dL_base_5 (by decide) (by decide)
  refine vx_calli (a := #[]) (S := ab_S) (SX := ab_S × Nat) hrun hS (fun q _ h => h) (fun q h => h) (fun q _ h => h) (fun E ce q9 u t H1 locs1 ht _ hpx hB _ _ hS1 hce hcv1 hcl1 => ?_) (fun r u t H1 locs1 ht _ hp hB _ _ hS1 => ?_)
  · obtain ⟨cv, hcode, hq⟩ := hpx
    obtain ⟨rfl, hB2⟩ := hB
    have hP1 : va_P D vwCl (ab_wl ad cy u.1) H1 := by rw [← ht]; exact hB2
    obtain ⟨S1, En⟩ := u
    simp only [cdl_base, List.mem_cons, List.not_mem_nil, or_false, Prod.mk.injEq] at hcode
    rcases hcode with ⟨rfl, rfl⟩
    · refine vx_catch (own := RL) (name := ab_ex 0) hown ([] : List ExceptionTableEntry) ⟨0, 10, 13, 13⟩ [] (by rw [hT]; rfl) ?_ (by decide) (by decide) (hts (.classLink RL 13 (ab_ex 0)) (by decide +kernel)) (va_Nw.use rfl (hKn.2.2.2.2.2.2.2 0 (by decide))) hce hcv1 hcl1 ?_
      · intro z hz
        cases hz
      · refine W.eq (g2 := F0 m 13 ls [.ref q9]) rfl ?_
        refine lv_astore hx hb dL_base_13 hl (by decide) rfl (fun ls2 hl2 => ?_)
        refine lv_iconst hx hb dL_base_15 (v := 1) (by decide) ?_
        exact wr_ret hx hb hr hlocks hP1 hS1 hq (by decide) (by decide) dL_base_16
  · have hP1 : va_P D vwCl (ab_wl ad cy u) H1 := by rw [← ht]; exact hB
    refine lv_i2l hx hb dL_base_8 rfl ?_
    refine wr_last hx hb hKn hP1 hS1 h41 dL_base_9 (fun H2 locs2 hP2 hS2 => ?_)
    refine lv_goto hx hb dL_base_10 (tgt := 17) (by decide) ?_
    refine lv_iconst hx hb dL_base_17 (v := 0) (by decide) ?_
    exact wr_ret hx hb hr hlocks hP2 hS2 hp (by decide) (by decide) dL_base_18
def rmL_merge : Room := { frames := 8, cells := 2, slots := 12, locals := 167 }
def cdl_merge : List (Nat × Int32) := [(0, 1), (4, 2)]
set_option maxRecDepth 20000 in
theorem wr_merge (l : Launch) (hlt : l.stackTraces = false) (D : va_G) (ad : ab_Ob → Nat) (base : Nat) (cy : Nat → ClassId) (sa : Nat → Nat) (x1 : Int32) (S : ab_S) (Qw : Int32 → ab_S → Prop) (hτ : Sp_X5_merge [.inr (0, 0), .inl x1] S (wqI cdl_merge Qw)) : Met l yL_merge wsL_merge rmL_merge (wr_Pc D ad base cy sa [.inr (0, 0), .inl x1, .inr (41, 0)] S) (va_Qi Qw (ab_B D ad cy) (ab_A base)) rmL_merge.cells rmL_merge.slots (ab_A base) := by
  refine ab_ofx (XC := fun _ _ _ => False) (vx_ofWH (cc := cL_merge) (maxL := 4) (ret := some .int) (by decide) rfl ?_) (fun _ _ _ h => h)
  intro p e s m args below meth c s₁ B hml hv
  obtain ⟨rfl, hoks, hbs, hP, hKn, hwK⟩ := hv
  have hx := B.exec
  have hb := B.bytes
  have hr := B.returns
  have hts := atoms_spec (ws := wsL_merge) B.pre
  have hown : s.vm.findClass RL = some m.cls := findClass_of_methodNamed B.named
  have hlocks := B.notSynchronized
  have hT : c.exceptionTable.toList = tableOf [(0, 9, 12, 13), (0, 9, 15, 48)] := vx_table (x := yL_merge) B (hts _ List.mem_cons_self)
  have h00 : (0 : Nat) < ab_nb 0 ∧ ad (0, 0) ≠ 0 := hoks (.inr (0, 0)) (by simp)
  have h41 : ad (41, 0) ≠ 0 := (hoks (.inr (41, 0)) (by simp) : _ ∧ _).2
  have hS : va_S (ab_A base) s.heap s.heap [] := va_S.rf
  have hl := lv_entry ([.ref (ad (0, 0)), .int x1, .ref (ad (41, 0))]) (n := 4) (Nat.le_of_ble_eq_true rfl)
  show W _ _ _ _ _ _ _ _ _ _ _ _ _ _ _ (entryFrame m ([.ref (ad (0, 0)), .int x1, .ref (ad (41, 0))] : List Value).toArray 4)
  rw [lg_entry_eq]
  generalize (lg_sl ([.ref (ad (0, 0)), .int x1, .ref (ad (41, 0))]) ++ List.replicate (4 - (lg_sl ([.ref (ad (0, 0)), .int x1, .ref (ad (41, 0))])).length) Slot.unset).toArray = ls at hl ⊢
  have hl : lv_has ls 4 [(0, .ref (ad (0, 0))), (1, .int x1), (2, .ref (ad (41, 0)))] := hl
  refine lv_aload_n hx hb dL_merge_0 rfl (lv_at hl 2 rfl) ?_
  refine lv_iconst hx hb dL_merge_1 (v := 0) (by decide) ?_
  refine lv_aload_n hx hb dL_merge_2 rfl (lv_at hl 0 rfl) ?_
  refine lv_iload_n hx hb dL_merge_3 rfl (lv_at hl 1 rfl) ?_
  have hrun := wr_run (R := (headSpec wsL_merge rmL_merge).room) (n := 1) (rest := [.int 0, .ref (ad (41, 0))]) (locs := []) (cells := 0) (slots := 0) (below := below) (e := e) (meth := meth) (ls := ls) (pc := 4) hx hb hml hown hts hKn hbs (so_X5_merge l hlt) gL_merge_X5_merge (0, 0) rfl rfl ⟨by decide +kernel, by decide +kernel, by decide +kernel⟩ (by decide) h00 rfl [.inl x1] (by intro v hv; simp only [List.mem_cons, List.not_mem_nil, or_false] at hv; rcases hv with rfl <;> exact trivial) rfl (Nat.le_of_ble_eq_true rfl) hτ hP hS hl.1 dL_merge_4 (by decide) (by decide)
  refine vx_calli (a := #[]) (S := ab_S) (SX := ab_S × Nat) hrun hS (fun q _ h => h) (fun q h => h) (fun q _ h => h) (fun E ce q9 u t H1 locs1 ht _ hpx hB _ _ hS1 hce hcv1 hcl1 => ?_) (fun r u t H1 locs1 ht _ hp hB _ _ hS1 => ?_)
  · obtain ⟨cv, hcode, hq⟩ := hpx
    obtain ⟨rfl, hB2⟩ := hB
    have hP1 : va_P D vwCl (ab_wl ad cy u.1) H1 := by rw [← ht]; exact hB2
    obtain ⟨S1, En⟩ := u
    simp only [cdl_merge, List.mem_cons, List.not_mem_nil, or_false, Prod.mk.injEq] at hcode
    rcases hcode with ⟨rfl, rfl⟩ | ⟨rfl, rfl⟩
    · refine vx_catch (own := RL) (name := ab_ex 0) hown ([] : List ExceptionTableEntry) ⟨0, 9, 12, 13⟩ [⟨0, 9, 15, 48⟩] (by rw [hT]; rfl) ?_ (by decide) (by decide) (hts (.classLink RL 13 (ab_ex 0)) (by decide +kernel)) (va_Nw.use rfl (hKn.2.2.2.2.2.2.2 0 (by decide))) hce hcv1 hcl1 ?_
      · intro z hz
        cases hz
      · refine W.eq (g2 := F0 m 12 ls [.ref q9]) rfl ?_
        refine lv_astore_n hx hb dL_merge_12 rfl hl (by decide) rfl (fun ls2 hl2 => ?_)
        refine lv_iconst hx hb dL_merge_13 (v := 1) (by decide) ?_
        exact wr_ret hx hb hr hlocks hP1 hS1 hq (by decide) (by decide) dL_merge_14
    · refine vx_catch (own := RL) (name := ab_ex 4) hown ([⟨0, 9, 12, 13⟩] : List ExceptionTableEntry) ⟨0, 9, 15, 48⟩ [] (by rw [hT]; rfl) ?_ (by decide) (by decide) (hts (.classLink RL 48 (ab_ex 4)) (by decide +kernel)) (va_Nw.use rfl (hKn.2.2.2.2.2.2.2 4 (by decide))) hce hcv1 hcl1 ?_
      · intro z hz
        simp only [List.mem_cons, List.not_mem_nil, or_false] at hz
        rcases hz with rfl
        · exact Or.inr ⟨by decide, ab_ex 0, hts (.classLink RL 13 (ab_ex 0)) (by decide +kernel), hwK 4 (by decide) 0 (by decide) (by decide)⟩
      · refine W.eq (g2 := F0 m 15 ls [.ref q9]) rfl ?_
        refine lv_astore_n hx hb dL_merge_15 rfl hl (by decide) rfl (fun ls2 hl2 => ?_)
        refine lv_iconst hx hb dL_merge_16 (v := 2) (by decide) ?_
        exact wr_ret hx hb hr hlocks hP1 hS1 hq (by decide) (by decide) dL_merge_17
  · have hP1 : va_P D vwCl (ab_wl ad cy u) H1 := by rw [← ht]; exact hB
    refine lv_i2l hx hb dL_merge_7 rfl ?_
    refine wr_last hx hb hKn hP1 hS1 h41 dL_merge_8 (fun H2 locs2 hP2 hS2 => ?_)
    refine lv_goto hx hb dL_merge_9 (tgt := 18) (by decide) ?_
    refine lv_iconst hx hb dL_merge_18 (v := 0) (by decide) ?_
    exact wr_ret hx hb hr hlocks hP2 hS2 hp (by decide) (by decide) dL_merge_19
def rmL_conflict : Room := { frames := 7, cells := 1, slots := 6, locals := 111 }
def cdl_conflict : List (Nat × Int32) := [(0, 1)]
set_option maxRecDepth 20000 in
theorem wr_conflict (l : Launch) (hlt : l.stackTraces = false) (D : va_G) (ad : ab_Ob → Nat) (base : Nat) (cy : Nat → ClassId) (sa : Nat → Nat) (x1 : Int32) (S : ab_S) (Qw : Int32 → ab_S → Prop) (hτ : Sp_X5_conflict [.inr (0, 0), .inl x1] S (wqI cdl_conflict Qw)) : Met l yL_conflict wsL_conflict rmL_conflict (wr_Pc D ad base cy sa [.inr (0, 0), .inl x1, .inr (41, 0)] S) (va_Qi Qw (ab_B D ad cy) (ab_A base)) rmL_conflict.cells rmL_conflict.slots (ab_A base) := by
  refine ab_ofx (XC := fun _ _ _ => False) (vx_ofWH (cc := cL_conflict) (maxL := 4) (ret := some .int) (by decide) rfl ?_) (fun _ _ _ h => h)
  intro p e s m args below meth c s₁ B hml hv
  obtain ⟨rfl, hoks, hbs, hP, hKn, hwK⟩ := hv
  have hx := B.exec
  have hb := B.bytes
  have hr := B.returns
  have hts := atoms_spec (ws := wsL_conflict) B.pre
  have hown : s.vm.findClass RL = some m.cls := findClass_of_methodNamed B.named
  have hlocks := B.notSynchronized
  have hT : c.exceptionTable.toList = tableOf [(0, 9, 12, 13)] := vx_table (x := yL_conflict) B (hts _ List.mem_cons_self)
  have h00 : (0 : Nat) < ab_nb 0 ∧ ad (0, 0) ≠ 0 := hoks (.inr (0, 0)) (by simp)
  have h41 : ad (41, 0) ≠ 0 := (hoks (.inr (41, 0)) (by simp) : _ ∧ _).2
  have hS : va_S (ab_A base) s.heap s.heap [] := va_S.rf
  have hl := lv_entry ([.ref (ad (0, 0)), .int x1, .ref (ad (41, 0))]) (n := 4) (Nat.le_of_ble_eq_true rfl)
  show W _ _ _ _ _ _ _ _ _ _ _ _ _ _ _ (entryFrame m ([.ref (ad (0, 0)), .int x1, .ref (ad (41, 0))] : List Value).toArray 4)
  rw [lg_entry_eq]
  generalize (lg_sl ([.ref (ad (0, 0)), .int x1, .ref (ad (41, 0))]) ++ List.replicate (4 - (lg_sl ([.ref (ad (0, 0)), .int x1, .ref (ad (41, 0))])).length) Slot.unset).toArray = ls at hl ⊢
  have hl : lv_has ls 4 [(0, .ref (ad (0, 0))), (1, .int x1), (2, .ref (ad (41, 0)))] := hl
  refine lv_aload_n hx hb dL_conflict_0 rfl (lv_at hl 2 rfl) ?_
  refine lv_iconst hx hb dL_conflict_1 (v := 0) (by decide) ?_
  refine lv_aload_n hx hb dL_conflict_2 rfl (lv_at hl 0 rfl) ?_
  refine lv_iload_n hx hb dL_conflict_3 rfl (lv_at hl 1 rfl) ?_
  have hrun := wr_run (R := (headSpec wsL_conflict rmL_conflict).room) (n := 1) (rest := [.int 0, .ref (ad (41, 0))]) (locs := []) (cells := 0) (slots := 0) (below := below) (e := e) (meth := meth) (ls := ls) (pc := 4) hx hb hml hown hts hKn hbs (so_X5_conflict l hlt) gL_conflict_X5_conflict (0, 0) rfl rfl ⟨by decide +kernel, by decide +kernel, by decide +kernel⟩ (by decide) h00 rfl [.inl x1] (by intro v hv; simp only [List.mem_cons, List.not_mem_nil, or_false] at hv; rcases hv with rfl <;> exact trivial) rfl (Nat.le_of_ble_eq_true rfl) hτ hP hS hl.1 dL_conflict_4 (by decide) (by decide)
  refine vx_calli (a := #[]) (S := ab_S) (SX := ab_S × Nat) hrun hS (fun q _ h => h) (fun q h => h) (fun q _ h => h) (fun E ce q9 u t H1 locs1 ht _ hpx hB _ _ hS1 hce hcv1 hcl1 => ?_) (fun r u t H1 locs1 ht _ hp hB _ _ hS1 => ?_)
  · obtain ⟨cv, hcode, hq⟩ := hpx
    obtain ⟨rfl, hB2⟩ := hB
    have hP1 : va_P D vwCl (ab_wl ad cy u.1) H1 := by rw [← ht]; exact hB2
    obtain ⟨S1, En⟩ := u
    simp only [cdl_conflict, List.mem_cons, List.not_mem_nil, or_false, Prod.mk.injEq] at hcode
    rcases hcode with ⟨rfl, rfl⟩
    · refine vx_catch (own := RL) (name := ab_ex 0) hown ([] : List ExceptionTableEntry) ⟨0, 9, 12, 13⟩ [] (by rw [hT]; rfl) ?_ (by decide) (by decide) (hts (.classLink RL 13 (ab_ex 0)) (by decide +kernel)) (va_Nw.use rfl (hKn.2.2.2.2.2.2.2 0 (by decide))) hce hcv1 hcl1 ?_
      · intro z hz
        cases hz
      · refine W.eq (g2 := F0 m 12 ls [.ref q9]) rfl ?_
        refine lv_astore_n hx hb dL_conflict_12 rfl hl (by decide) rfl (fun ls2 hl2 => ?_)
        refine lv_iconst hx hb dL_conflict_13 (v := 1) (by decide) ?_
        exact wr_ret hx hb hr hlocks hP1 hS1 hq (by decide) (by decide) dL_conflict_14
  · have hP1 : va_P D vwCl (ab_wl ad cy u) H1 := by rw [← ht]; exact hB
    refine lv_i2l hx hb dL_conflict_7 rfl ?_
    refine wr_last hx hb hKn hP1 hS1 h41 dL_conflict_8 (fun H2 locs2 hP2 hS2 => ?_)
    refine lv_goto hx hb dL_conflict_9 (tgt := 15) (by decide) ?_
    refine lv_iconst hx hb dL_conflict_15 (v := 0) (by decide) ?_
    exact wr_ret hx hb hr hlocks hP2 hS2 hp (by decide) (by decide) dL_conflict_16
def rmL_about : Room := { frames := 8, cells := 2, slots := 12, locals := 133 }
def cdl_about : List (Nat × Int32) := [(0, 1), (1, 2)]
set_option maxRecDepth 20000 in
theorem wr_about (l : Launch) (hlt : l.stackTraces = false) (D : va_G) (ad : ab_Ob → Nat) (base : Nat) (cy : Nat → ClassId) (sa : Nat → Nat) (x1 x2 : Int32) (S : ab_S) (Qw : Int32 → ab_S → Prop) (hτ : Sp_X5_about [.inr (0, 0), .inl x1, .inl x2] S (wqI cdl_about Qw)) : Met l yL_about wsL_about rmL_about (wr_Pc D ad base cy sa [.inr (0, 0), .inl x1, .inl x2, .inr (41, 0)] S) (va_Qi Qw (ab_B D ad cy) (ab_A base)) rmL_about.cells rmL_about.slots (ab_A base) := by
  refine ab_ofx (XC := fun _ _ _ => False) (vx_ofWH (cc := cL_about) (maxL := 5) (ret := some .int) (by decide) rfl ?_) (fun _ _ _ h => h)
  intro p e s m args below meth c s₁ B hml hv
  obtain ⟨rfl, hoks, hbs, hP, hKn, hwK⟩ := hv
  have hx := B.exec
  have hb := B.bytes
  have hr := B.returns
  have hts := atoms_spec (ws := wsL_about) B.pre
  have hown : s.vm.findClass RL = some m.cls := findClass_of_methodNamed B.named
  have hlocks := B.notSynchronized
  have hT : c.exceptionTable.toList = tableOf [(0, 10, 13, 13), (0, 10, 17, 15)] := vx_table (x := yL_about) B (hts _ List.mem_cons_self)
  have h00 : (0 : Nat) < ab_nb 0 ∧ ad (0, 0) ≠ 0 := hoks (.inr (0, 0)) (by simp)
  have h41 : ad (41, 0) ≠ 0 := (hoks (.inr (41, 0)) (by simp) : _ ∧ _).2
  have hS : va_S (ab_A base) s.heap s.heap [] := va_S.rf
  have hl := lv_entry ([.ref (ad (0, 0)), .int x1, .int x2, .ref (ad (41, 0))]) (n := 5) (Nat.le_of_ble_eq_true rfl)
  show W _ _ _ _ _ _ _ _ _ _ _ _ _ _ _ (entryFrame m ([.ref (ad (0, 0)), .int x1, .int x2, .ref (ad (41, 0))] : List Value).toArray 5)
  rw [lg_entry_eq]
  generalize (lg_sl ([.ref (ad (0, 0)), .int x1, .int x2, .ref (ad (41, 0))]) ++ List.replicate (5 - (lg_sl ([.ref (ad (0, 0)), .int x1, .int x2, .ref (ad (41, 0))])).length) Slot.unset).toArray = ls at hl ⊢
  have hl : lv_has ls 5 [(0, .ref (ad (0, 0))), (1, .int x1), (2, .int x2), (3, .ref (ad (41, 0)))] := hl
  refine lv_aload_n hx hb dL_about_0 rfl (lv_at hl 3 rfl) ?_
  refine lv_iconst hx hb dL_about_1 (v := 0) (by decide) ?_
  refine lv_aload_n hx hb dL_about_2 rfl (lv_at hl 0 rfl) ?_
  refine lv_iload_n hx hb dL_about_3 rfl (lv_at hl 1 rfl) ?_
  refine lv_iload_n hx hb dL_about_4 rfl (lv_at hl 2 rfl) ?_
  have hrun := wr_run (R := (headSpec wsL_about rmL_about).room) (n := 2) (rest := [.int 0, .ref (ad (41, 0))]) (locs := []) (cells := 0) (slots := 0) (below := below) (e := e) (meth := meth) (ls := ls) (pc := 5) hx hb hml hown hts hKn hbs (so_X5_about l hlt) gL_about_X5_about (0, 0) rfl rfl ⟨by decide +kernel, by decide +kernel, by decide +kernel⟩ (by decide) h00 rfl [.inl x1, .inl x2] (by intro v hv; simp only [List.mem_cons, List.not_mem_nil, or_false] at hv; rcases hv with rfl | rfl <;> exact trivial) rfl (Nat.le_of_ble_eq_true rfl) hτ hP hS hl.1 dL_about_5 (by decide) (by decide)
  refine vx_calli (a := #[]) (S := ab_S) (SX := ab_S × Nat) hrun hS (fun q _ h => h) (fun q h => h) (fun q _ h => h) (fun E ce q9 u t H1 locs1 ht _ hpx hB _ _ hS1 hce hcv1 hcl1 => ?_) (fun r u t H1 locs1 ht _ hp hB _ _ hS1 => ?_)
  · obtain ⟨cv, hcode, hq⟩ := hpx
    obtain ⟨rfl, hB2⟩ := hB
    have hP1 : va_P D vwCl (ab_wl ad cy u.1) H1 := by rw [← ht]; exact hB2
    obtain ⟨S1, En⟩ := u
    simp only [cdl_about, List.mem_cons, List.not_mem_nil, or_false, Prod.mk.injEq] at hcode
    rcases hcode with ⟨rfl, rfl⟩ | ⟨rfl, rfl⟩
    · refine vx_catch (own := RL) (name := ab_ex 0) hown ([] : List ExceptionTableEntry) ⟨0, 10, 13, 13⟩ [⟨0, 10, 17, 15⟩] (by rw [hT]; rfl) ?_ (by decide) (by decide) (hts (.classLink RL 13 (ab_ex 0)) (by decide +kernel)) (va_Nw.use rfl (hKn.2.2.2.2.2.2.2 0 (by decide))) hce hcv1 hcl1 ?_
      · intro z hz
        cases hz
      · refine W.eq (g2 := F0 m 13 ls [.ref q9]) rfl ?_
        refine lv_astore hx hb dL_about_13 hl (by decide) rfl (fun ls2 hl2 => ?_)
        refine lv_iconst hx hb dL_about_15 (v := 1) (by decide) ?_
        exact wr_ret hx hb hr hlocks hP1 hS1 hq (by decide) (by decide) dL_about_16
    · refine vx_catch (own := RL) (name := ab_ex 1) hown ([⟨0, 10, 13, 13⟩] : List ExceptionTableEntry) ⟨0, 10, 17, 15⟩ [] (by rw [hT]; rfl) ?_ (by decide) (by decide) (hts (.classLink RL 15 (ab_ex 1)) (by decide +kernel)) (va_Nw.use rfl (hKn.2.2.2.2.2.2.2 1 (by decide))) hce hcv1 hcl1 ?_
      · intro z hz
        simp only [List.mem_cons, List.not_mem_nil, or_false] at hz
        rcases hz with rfl
        · exact Or.inr ⟨by decide, ab_ex 0, hts (.classLink RL 13 (ab_ex 0)) (by decide +kernel), hwK 1 (by decide) 0 (by decide) (by decide)⟩
      · refine W.eq (g2 := F0 m 17 ls [.ref q9]) rfl ?_
        refine lv_astore hx hb dL_about_17 hl (by decide) rfl (fun ls2 hl2 => ?_)
        refine lv_iconst hx hb dL_about_19 (v := 2) (by decide) ?_
        exact wr_ret hx hb hr hlocks hP1 hS1 hq (by decide) (by decide) dL_about_20
  · have hP1 : va_P D vwCl (ab_wl ad cy u) H1 := by rw [← ht]; exact hB
    refine lv_i2l hx hb dL_about_8 rfl ?_
    refine wr_last hx hb hKn hP1 hS1 h41 dL_about_9 (fun H2 locs2 hP2 hS2 => ?_)
    refine lv_goto hx hb dL_about_10 (tgt := 21) (by decide) ?_
    refine lv_iconst hx hb dL_about_21 (v := 0) (by decide) ?_
    exact wr_ret hx hb hr hlocks hP2 hS2 hp (by decide) (by decide) dL_about_22
def rmL_child : Room := { frames := 8, cells := 2, slots := 12, locals := 133 }
def cdl_child : List (Nat × Int32) := [(0, 1), (1, 2)]
set_option maxRecDepth 20000 in
theorem wr_child (l : Launch) (hlt : l.stackTraces = false) (D : va_G) (ad : ab_Ob → Nat) (base : Nat) (cy : Nat → ClassId) (sa : Nat → Nat) (x1 x2 : Int32) (S : ab_S) (Qw : Int32 → ab_S → Prop) (hτ : Sp_X5_child [.inr (0, 0), .inl x1, .inl x2] S (wqI cdl_child Qw)) : Met l yL_child wsL_child rmL_child (wr_Pc D ad base cy sa [.inr (0, 0), .inl x1, .inl x2, .inr (41, 0)] S) (va_Qi Qw (ab_B D ad cy) (ab_A base)) rmL_child.cells rmL_child.slots (ab_A base) := by
  refine ab_ofx (XC := fun _ _ _ => False) (vx_ofWH (cc := cL_child) (maxL := 5) (ret := some .int) (by decide) rfl ?_) (fun _ _ _ h => h)
  intro p e s m args below meth c s₁ B hml hv
  obtain ⟨rfl, hoks, hbs, hP, hKn, hwK⟩ := hv
  have hx := B.exec
  have hb := B.bytes
  have hr := B.returns
  have hts := atoms_spec (ws := wsL_child) B.pre
  have hown : s.vm.findClass RL = some m.cls := findClass_of_methodNamed B.named
  have hlocks := B.notSynchronized
  have hT : c.exceptionTable.toList = tableOf [(0, 10, 13, 13), (0, 10, 17, 15)] := vx_table (x := yL_child) B (hts _ List.mem_cons_self)
  have h00 : (0 : Nat) < ab_nb 0 ∧ ad (0, 0) ≠ 0 := hoks (.inr (0, 0)) (by simp)
  have h41 : ad (41, 0) ≠ 0 := (hoks (.inr (41, 0)) (by simp) : _ ∧ _).2
  have hS : va_S (ab_A base) s.heap s.heap [] := va_S.rf
  have hl := lv_entry ([.ref (ad (0, 0)), .int x1, .int x2, .ref (ad (41, 0))]) (n := 5) (Nat.le_of_ble_eq_true rfl)
  show W _ _ _ _ _ _ _ _ _ _ _ _ _ _ _ (entryFrame m ([.ref (ad (0, 0)), .int x1, .int x2, .ref (ad (41, 0))] : List Value).toArray 5)
  rw [lg_entry_eq]
  generalize (lg_sl ([.ref (ad (0, 0)), .int x1, .int x2, .ref (ad (41, 0))]) ++ List.replicate (5 - (lg_sl ([.ref (ad (0, 0)), .int x1, .int x2, .ref (ad (41, 0))])).length) Slot.unset).toArray = ls at hl ⊢
  have hl : lv_has ls 5 [(0, .ref (ad (0, 0))), (1, .int x1), (2, .int x2), (3, .ref (ad (41, 0)))] := hl
  refine lv_aload_n hx hb dL_child_0 rfl (lv_at hl 3 rfl) ?_
  refine lv_iconst hx hb dL_child_1 (v := 0) (by decide) ?_
  refine lv_aload_n hx hb dL_child_2 rfl (lv_at hl 0 rfl) ?_
  refine lv_iload_n hx hb dL_child_3 rfl (lv_at hl 1 rfl) ?_
  refine lv_iload_n hx hb dL_child_4 rfl (lv_at hl 2 rfl) ?_
  have hrun := wr_run (R := (headSpec wsL_child rmL_child).room) (n := 2) (rest := [.int 0, .ref (ad (41, 0))]) (locs := []) (cells := 0) (slots := 0) (below := below) (e := e) (meth := meth) (ls := ls) (pc := 5) hx hb hml hown hts hKn hbs (so_X5_child l hlt) gL_child_X5_child (0, 0) rfl rfl ⟨by decide +kernel, by decide +kernel, by decide +kernel⟩ (by decide) h00 rfl [.inl x1, .inl x2] (by intro v hv; simp only [List.mem_cons, List.not_mem_nil, or_false] at hv; rcases hv with rfl | rfl <;> exact trivial) rfl (Nat.le_of_ble_eq_true rfl) hτ hP hS hl.1 dL_child_5 (by decide) (by decide)
  refine vx_calli (a := #[]) (S := ab_S) (SX := ab_S × Nat) hrun hS (fun q _ h => h) (fun q h => h) (fun q _ h => h) (fun E ce q9 u t H1 locs1 ht _ hpx hB _ _ hS1 hce hcv1 hcl1 => ?_) (fun r u t H1 locs1 ht _ hp hB _ _ hS1 => ?_)
  · obtain ⟨cv, hcode, hq⟩ := hpx
    obtain ⟨rfl, hB2⟩ := hB
    have hP1 : va_P D vwCl (ab_wl ad cy u.1) H1 := by rw [← ht]; exact hB2
    obtain ⟨S1, En⟩ := u
    simp only [cdl_child, List.mem_cons, List.not_mem_nil, or_false, Prod.mk.injEq] at hcode
    rcases hcode with ⟨rfl, rfl⟩ | ⟨rfl, rfl⟩
    · refine vx_catch (own := RL) (name := ab_ex 0) hown ([] : List ExceptionTableEntry) ⟨0, 10, 13, 13⟩ [⟨0, 10, 17, 15⟩] (by rw [hT]; rfl) ?_ (by decide) (by decide) (hts (.classLink RL 13 (ab_ex 0)) (by decide +kernel)) (va_Nw.use rfl (hKn.2.2.2.2.2.2.2 0 (by decide))) hce hcv1 hcl1 ?_
      · intro z hz
        cases hz
      · refine W.eq (g2 := F0 m 13 ls [.ref q9]) rfl ?_
        refine lv_astore hx hb dL_child_13 hl (by decide) rfl (fun ls2 hl2 => ?_)
        refine lv_iconst hx hb dL_child_15 (v := 1) (by decide) ?_
        exact wr_ret hx hb hr hlocks hP1 hS1 hq (by decide) (by decide) dL_child_16
    · refine vx_catch (own := RL) (name := ab_ex 1) hown ([⟨0, 10, 13, 13⟩] : List ExceptionTableEntry) ⟨0, 10, 17, 15⟩ [] (by rw [hT]; rfl) ?_ (by decide) (by decide) (hts (.classLink RL 15 (ab_ex 1)) (by decide +kernel)) (va_Nw.use rfl (hKn.2.2.2.2.2.2.2 1 (by decide))) hce hcv1 hcl1 ?_
      · intro z hz
        simp only [List.mem_cons, List.not_mem_nil, or_false] at hz
        rcases hz with rfl
        · exact Or.inr ⟨by decide, ab_ex 0, hts (.classLink RL 13 (ab_ex 0)) (by decide +kernel), hwK 1 (by decide) 0 (by decide) (by decide)⟩
      · refine W.eq (g2 := F0 m 17 ls [.ref q9]) rfl ?_
        refine lv_astore hx hb dL_child_17 hl (by decide) rfl (fun ls2 hl2 => ?_)
        refine lv_iconst hx hb dL_child_19 (v := 2) (by decide) ?_
        exact wr_ret hx hb hr hlocks hP1 hS1 hq (by decide) (by decide) dL_child_20
  · have hP1 : va_P D vwCl (ab_wl ad cy u) H1 := by rw [← ht]; exact hB
    refine lv_i2l hx hb dL_child_8 rfl ?_
    refine wr_last hx hb hKn hP1 hS1 h41 dL_child_9 (fun H2 locs2 hP2 hS2 => ?_)
    refine lv_goto hx hb dL_child_10 (tgt := 21) (by decide) ?_
    refine lv_iconst hx hb dL_child_21 (v := 0) (by decide) ?_
    exact wr_ret hx hb hr hlocks hP2 hS2 hp (by decide) (by decide) dL_child_22
def rmL_find : Room := { frames := 7, cells := 1, slots := 6, locals := 118 }
def cdl_find : List (Nat × Int32) := [(0, 1)]
set_option maxRecDepth 20000 in
theorem wr_find (l : Launch) (hlt : l.stackTraces = false) (D : va_G) (ad : ab_Ob → Nat) (base : Nat) (cy : Nat → ClassId) (sa : Nat → Nat) (x1 x2 : Int32) (S : ab_S) (Qw : Int32 → ab_S → Prop) (hτ : Sp_X5_find [.inr (0, 0), .inl x1, .inl x2] S (wqI cdl_find Qw)) : Met l yL_find wsL_find rmL_find (wr_Pc D ad base cy sa [.inr (0, 0), .inl x1, .inl x2, .inr (41, 0)] S) (va_Qi Qw (ab_B D ad cy) (ab_A base)) rmL_find.cells rmL_find.slots (ab_A base) := by
  refine ab_ofx (XC := fun _ _ _ => False) (vx_ofWH (cc := cL_find) (maxL := 5) (ret := some .int) (by decide) rfl ?_) (fun _ _ _ h => h)
  intro p e s m args below meth c s₁ B hml hv
  obtain ⟨rfl, hoks, hbs, hP, hKn, hwK⟩ := hv
  have hx := B.exec
  have hb := B.bytes
  have hr := B.returns
  have hts := atoms_spec (ws := wsL_find) B.pre
  have hown : s.vm.findClass RL = some m.cls := findClass_of_methodNamed B.named
  have hlocks := B.notSynchronized
  have hT : c.exceptionTable.toList = tableOf [(0, 10, 13, 13)] := vx_table (x := yL_find) B (hts _ List.mem_cons_self)
  have h00 : (0 : Nat) < ab_nb 0 ∧ ad (0, 0) ≠ 0 := hoks (.inr (0, 0)) (by simp)
  have h41 : ad (41, 0) ≠ 0 := (hoks (.inr (41, 0)) (by simp) : _ ∧ _).2
  have hS : va_S (ab_A base) s.heap s.heap [] := va_S.rf
  have hl := lv_entry ([.ref (ad (0, 0)), .int x1, .int x2, .ref (ad (41, 0))]) (n := 5) (Nat.le_of_ble_eq_true rfl)
  show W _ _ _ _ _ _ _ _ _ _ _ _ _ _ _ (entryFrame m ([.ref (ad (0, 0)), .int x1, .int x2, .ref (ad (41, 0))] : List Value).toArray 5)
  rw [lg_entry_eq]
  generalize (lg_sl ([.ref (ad (0, 0)), .int x1, .int x2, .ref (ad (41, 0))]) ++ List.replicate (5 - (lg_sl ([.ref (ad (0, 0)), .int x1, .int x2, .ref (ad (41, 0))])).length) Slot.unset).toArray = ls at hl ⊢
  have hl : lv_has ls 5 [(0, .ref (ad (0, 0))), (1, .int x1), (2, .int x2), (3, .ref (ad (41, 0)))] := hl
  refine lv_aload_n hx hb dL_find_0 rfl (lv_at hl 3 rfl) ?_
  refine lv_iconst hx hb dL_find_1 (v := 0) (by decide) ?_
  refine lv_aload_n hx hb dL_find_2 rfl (lv_at hl 0 rfl) ?_
  refine lv_iload_n hx hb dL_find_3 rfl (lv_at hl 1 rfl) ?_
  refine lv_iload_n hx hb dL_find_4 rfl (lv_at hl 2 rfl) ?_
  have hrun := wr_run (R := (headSpec wsL_find rmL_find).room) (n := 2) (rest := [.int 0, .ref (ad (41, 0))]) (locs := []) (cells := 0) (slots := 0) (below := below) (e := e) (meth := meth) (ls := ls) (pc := 5) hx hb hml hown hts hKn hbs (so_X5_find l hlt) gL_find_X5_find (0, 0) rfl rfl ⟨by decide +kernel, by decide +kernel, by decide +kernel⟩ (by decide) h00 rfl [.inl x1, .inl x2] (by intro v hv; simp only [List.mem_cons, List.not_mem_nil, or_false] at hv; rcases hv with rfl | rfl <;> exact trivial) rfl (Nat.le_of_ble_eq_true rfl) hτ hP hS hl.1 dL_find_5 (by decide) (by decide)
  refine vx_calli (a := #[]) (S := ab_S) (SX := ab_S × Nat) hrun hS (fun q _ h => h) (fun q h => h) (fun q _ h => h) (fun E ce q9 u t H1 locs1 ht _ hpx hB _ _ hS1 hce hcv1 hcl1 => ?_) (fun r u t H1 locs1 ht _ hp hB _ _ hS1 => ?_)
  · obtain ⟨cv, hcode, hq⟩ := hpx
    obtain ⟨rfl, hB2⟩ := hB
    have hP1 : va_P D vwCl (ab_wl ad cy u.1) H1 := by rw [← ht]; exact hB2
    obtain ⟨S1, En⟩ := u
    simp only [cdl_find, List.mem_cons, List.not_mem_nil, or_false, Prod.mk.injEq] at hcode
    rcases hcode with ⟨rfl, rfl⟩
    · refine vx_catch (own := RL) (name := ab_ex 0) hown ([] : List ExceptionTableEntry) ⟨0, 10, 13, 13⟩ [] (by rw [hT]; rfl) ?_ (by decide) (by decide) (hts (.classLink RL 13 (ab_ex 0)) (by decide +kernel)) (va_Nw.use rfl (hKn.2.2.2.2.2.2.2 0 (by decide))) hce hcv1 hcl1 ?_
      · intro z hz
        cases hz
      · refine W.eq (g2 := F0 m 13 ls [.ref q9]) rfl ?_
        refine lv_astore hx hb dL_find_13 hl (by decide) rfl (fun ls2 hl2 => ?_)
        refine lv_iconst hx hb dL_find_15 (v := 1) (by decide) ?_
        exact wr_ret hx hb hr hlocks hP1 hS1 hq (by decide) (by decide) dL_find_16
  · have hP1 : va_P D vwCl (ab_wl ad cy u) H1 := by rw [← ht]; exact hB
    refine lv_i2l hx hb dL_find_8 rfl ?_
    refine wr_last hx hb hKn hP1 hS1 h41 dL_find_9 (fun H2 locs2 hP2 hS2 => ?_)
    refine lv_goto hx hb dL_find_10 (tgt := 17) (by decide) ?_
    refine lv_iconst hx hb dL_find_17 (v := 0) (by decide) ?_
    exact wr_ret hx hb hr hlocks hP2 hS2 hp (by decide) (by decide) dL_find_18
def rmL_alike : Room := { frames := 8, cells := 1, slots := 6, locals := 132 }
def cdl_alike : List (Nat × Int32) := [(0, 1)]
set_option maxRecDepth 20000 in
theorem wr_alike (l : Launch) (hlt : l.stackTraces = false) (D : va_G) (ad : ab_Ob → Nat) (base : Nat) (cy : Nat → ClassId) (sa : Nat → Nat) (x1 : Int32) (S : ab_S) (Qw : Int32 → ab_S → Prop) (hτ : Sp_X5_alike [.inr (0, 0), .inl x1] S (wqI cdl_alike Qw)) : Met l yL_alike wsL_alike rmL_alike (wr_Pc D ad base cy sa [.inr (0, 0), .inl x1, .inr (41, 0)] S) (va_Qi Qw (ab_B D ad cy) (ab_A base)) rmL_alike.cells rmL_alike.slots (ab_A base) := by
  refine ab_ofx (XC := fun _ _ _ => False) (vx_ofWH (cc := cL_alike) (maxL := 4) (ret := some .int) (by decide) rfl ?_) (fun _ _ _ h => h)
  intro p e s m args below meth c s₁ B hml hv
  obtain ⟨rfl, hoks, hbs, hP, hKn, hwK⟩ := hv
  have hx := B.exec
  have hb := B.bytes
  have hr := B.returns
  have hts := atoms_spec (ws := wsL_alike) B.pre
  have hown : s.vm.findClass RL = some m.cls := findClass_of_methodNamed B.named
  have hlocks := B.notSynchronized
  have hT : c.exceptionTable.toList = tableOf [(0, 9, 12, 13)] := vx_table (x := yL_alike) B (hts _ List.mem_cons_self)
  have h00 : (0 : Nat) < ab_nb 0 ∧ ad (0, 0) ≠ 0 := hoks (.inr (0, 0)) (by simp)
  have h41 : ad (41, 0) ≠ 0 := (hoks (.inr (41, 0)) (by simp) : _ ∧ _).2
  have hS : va_S (ab_A base) s.heap s.heap [] := va_S.rf
  have hl := lv_entry ([.ref (ad (0, 0)), .int x1, .ref (ad (41, 0))]) (n := 4) (Nat.le_of_ble_eq_true rfl)
  show W _ _ _ _ _ _ _ _ _ _ _ _ _ _ _ (entryFrame m ([.ref (ad (0, 0)), .int x1, .ref (ad (41, 0))] : List Value).toArray 4)
  rw [lg_entry_eq]
  generalize (lg_sl ([.ref (ad (0, 0)), .int x1, .ref (ad (41, 0))]) ++ List.replicate (4 - (lg_sl ([.ref (ad (0, 0)), .int x1, .ref (ad (41, 0))])).length) Slot.unset).toArray = ls at hl ⊢
  have hl : lv_has ls 4 [(0, .ref (ad (0, 0))), (1, .int x1), (2, .ref (ad (41, 0)))] := hl
  refine lv_aload_n hx hb dL_alike_0 rfl (lv_at hl 2 rfl) ?_
  refine lv_iconst hx hb dL_alike_1 (v := 0) (by decide) ?_
  refine lv_aload_n hx hb dL_alike_2 rfl (lv_at hl 0 rfl) ?_
  refine lv_iload_n hx hb dL_alike_3 rfl (lv_at hl 1 rfl) ?_
  have hrun := wr_run (R := (headSpec wsL_alike rmL_alike).room) (n := 1) (rest := [.int 0, .ref (ad (41, 0))]) (locs := []) (cells := 0) (slots := 0) (below := below) (e := e) (meth := meth) (ls := ls) (pc := 4) hx hb hml hown hts hKn hbs (so_X5_alike l hlt) gL_alike_X5_alike (0, 0) rfl rfl ⟨by decide +kernel, by decide +kernel, by decide +kernel⟩ (by decide) h00 rfl [.inl x1] (by intro v hv; simp only [List.mem_cons, List.not_mem_nil, or_false] at hv; rcases hv with rfl <;> exact trivial) rfl (Nat.le_of_ble_eq_true rfl) hτ hP hS hl.1 dL_alike_4 (by decide) (by decide)
  refine vx_calli (a := #[]) (S := ab_S) (SX := ab_S × Nat) hrun hS (fun q _ h => h) (fun q h => h) (fun q _ h => h) (fun E ce q9 u t H1 locs1 ht _ hpx hB _ _ hS1 hce hcv1 hcl1 => ?_) (fun r u t H1 locs1 ht _ hp hB _ _ hS1 => ?_)
  · obtain ⟨cv, hcode, hq⟩ := hpx
    obtain ⟨rfl, hB2⟩ := hB
    have hP1 : va_P D vwCl (ab_wl ad cy u.1) H1 := by rw [← ht]; exact hB2
    obtain ⟨S1, En⟩ := u
    simp only [cdl_alike, List.mem_cons, List.not_mem_nil, or_false, Prod.mk.injEq] at hcode
    rcases hcode with ⟨rfl, rfl⟩
    · refine vx_catch (own := RL) (name := ab_ex 0) hown ([] : List ExceptionTableEntry) ⟨0, 9, 12, 13⟩ [] (by rw [hT]; rfl) ?_ (by decide) (by decide) (hts (.classLink RL 13 (ab_ex 0)) (by decide +kernel)) (va_Nw.use rfl (hKn.2.2.2.2.2.2.2 0 (by decide))) hce hcv1 hcl1 ?_
      · intro z hz
        cases hz
      · refine W.eq (g2 := F0 m 12 ls [.ref q9]) rfl ?_
        refine lv_astore_n hx hb dL_alike_12 rfl hl (by decide) rfl (fun ls2 hl2 => ?_)
        refine lv_iconst hx hb dL_alike_13 (v := 1) (by decide) ?_
        exact wr_ret hx hb hr hlocks hP1 hS1 hq (by decide) (by decide) dL_alike_14
  · have hP1 : va_P D vwCl (ab_wl ad cy u) H1 := by rw [← ht]; exact hB
    refine lv_i2l hx hb dL_alike_7 rfl ?_
    refine wr_last hx hb hKn hP1 hS1 h41 dL_alike_8 (fun H2 locs2 hP2 hS2 => ?_)
    refine lv_goto hx hb dL_alike_9 (tgt := 15) (by decide) ?_
    refine lv_iconst hx hb dL_alike_15 (v := 0) (by decide) ?_
    exact wr_ret hx hb hr hlocks hP2 hS2 hp (by decide) (by decide) dL_alike_16
def rmL_distance : Room := { frames := 8, cells := 2, slots := 12, locals := 143 }
def cdl_distance : List (Nat × Int32) := [(0, 1)]
set_option maxRecDepth 20000 in
theorem wr_distance (l : Launch) (hlt : l.stackTraces = false) (D : va_G) (ad : ab_Ob → Nat) (base : Nat) (cy : Nat → ClassId) (sa : Nat → Nat) (x1 x2 : Int32) (S : ab_S) (Qw : Int32 → ab_S → Prop) (hτ : Sp_X5_distance [.inr (0, 0), .inl x1, .inl x2] S (wqI cdl_distance Qw)) : Met l yL_distance wsL_distance rmL_distance (wr_Pc D ad base cy sa [.inr (0, 0), .inl x1, .inl x2, .inr (41, 0)] S) (va_Qi Qw (ab_B D ad cy) (ab_A base)) rmL_distance.cells rmL_distance.slots (ab_A base) := by
  refine ab_ofx (XC := fun _ _ _ => False) (vx_ofWH (cc := cL_distance) (maxL := 5) (ret := some .int) (by decide) rfl ?_) (fun _ _ _ h => h)
  intro p e s m args below meth c s₁ B hml hv
  obtain ⟨rfl, hoks, hbs, hP, hKn, hwK⟩ := hv
  have hx := B.exec
  have hb := B.bytes
  have hr := B.returns
  have hts := atoms_spec (ws := wsL_distance) B.pre
  have hown : s.vm.findClass RL = some m.cls := findClass_of_methodNamed B.named
  have hlocks := B.notSynchronized
  have hT : c.exceptionTable.toList = tableOf [(0, 10, 13, 13)] := vx_table (x := yL_distance) B (hts _ List.mem_cons_self)
  have h00 : (0 : Nat) < ab_nb 0 ∧ ad (0, 0) ≠ 0 := hoks (.inr (0, 0)) (by simp)
  have h41 : ad (41, 0) ≠ 0 := (hoks (.inr (41, 0)) (by simp) : _ ∧ _).2
  have hS : va_S (ab_A base) s.heap s.heap [] := va_S.rf
  have hl := lv_entry ([.ref (ad (0, 0)), .int x1, .int x2, .ref (ad (41, 0))]) (n := 5) (Nat.le_of_ble_eq_true rfl)
  show W _ _ _ _ _ _ _ _ _ _ _ _ _ _ _ (entryFrame m ([.ref (ad (0, 0)), .int x1, .int x2, .ref (ad (41, 0))] : List Value).toArray 5)
  rw [lg_entry_eq]
  generalize (lg_sl ([.ref (ad (0, 0)), .int x1, .int x2, .ref (ad (41, 0))]) ++ List.replicate (5 - (lg_sl ([.ref (ad (0, 0)), .int x1, .int x2, .ref (ad (41, 0))])).length) Slot.unset).toArray = ls at hl ⊢
  have hl : lv_has ls 5 [(0, .ref (ad (0, 0))), (1, .int x1), (2, .int x2), (3, .ref (ad (41, 0)))] := hl
  refine lv_aload_n hx hb dL_distance_0 rfl (lv_at hl 3 rfl) ?_
  refine lv_iconst hx hb dL_distance_1 (v := 0) (by decide) ?_
  refine lv_aload_n hx hb dL_distance_2 rfl (lv_at hl 0 rfl) ?_
  refine lv_iload_n hx hb dL_distance_3 rfl (lv_at hl 1 rfl) ?_
  refine lv_iload_n hx hb dL_distance_4 rfl (lv_at hl 2 rfl) ?_
  have hrun := wr_run (R := (headSpec wsL_distance rmL_distance).room) (n := 2) (rest := [.int 0, .ref (ad (41, 0))]) (locs := []) (cells := 0) (slots := 0) (below := below) (e := e) (meth := meth) (ls := ls) (pc := 5) hx hb hml hown hts hKn hbs (so_X5_distance l hlt) gL_distance_X5_distance (0, 0) rfl rfl ⟨by decide +kernel, by decide +kernel, by decide +kernel⟩ (by decide) h00 rfl [.inl x1, .inl x2] (by intro v hv; simp only [List.mem_cons, List.not_mem_nil, or_false] at hv; rcases hv with rfl | rfl <;> exact trivial) rfl (Nat.le_of_ble_eq_true rfl) hτ hP hS hl.1 dL_distance_5 (by decide) (by decide)
  refine vx_calli (a := #[]) (S := ab_S) (SX := ab_S × Nat) hrun hS (fun q _ h => h) (fun q h => h) (fun q _ h => h) (fun E ce q9 u t H1 locs1 ht _ hpx hB _ _ hS1 hce hcv1 hcl1 => ?_) (fun r u t H1 locs1 ht _ hp hB _ _ hS1 => ?_)
  · obtain ⟨cv, hcode, hq⟩ := hpx
    obtain ⟨rfl, hB2⟩ := hB
    have hP1 : va_P D vwCl (ab_wl ad cy u.1) H1 := by rw [← ht]; exact hB2
    obtain ⟨S1, En⟩ := u
    simp only [cdl_distance, List.mem_cons, List.not_mem_nil, or_false, Prod.mk.injEq] at hcode
    rcases hcode with ⟨rfl, rfl⟩
    · refine vx_catch (own := RL) (name := ab_ex 0) hown ([] : List ExceptionTableEntry) ⟨0, 10, 13, 13⟩ [] (by rw [hT]; rfl) ?_ (by decide) (by decide) (hts (.classLink RL 13 (ab_ex 0)) (by decide +kernel)) (va_Nw.use rfl (hKn.2.2.2.2.2.2.2 0 (by decide))) hce hcv1 hcl1 ?_
      · intro z hz
        cases hz
      · refine W.eq (g2 := F0 m 13 ls [.ref q9]) rfl ?_
        refine lv_astore hx hb dL_distance_13 hl (by decide) rfl (fun ls2 hl2 => ?_)
        refine lv_iconst hx hb dL_distance_15 (v := 1) (by decide) ?_
        exact wr_ret hx hb hr hlocks hP1 hS1 hq (by decide) (by decide) dL_distance_16
  · have hP1 : va_P D vwCl (ab_wl ad cy u) H1 := by rw [← ht]; exact hB
    refine lv_i2l hx hb dL_distance_8 rfl ?_
    refine wr_last hx hb hKn hP1 hS1 h41 dL_distance_9 (fun H2 locs2 hP2 hS2 => ?_)
    refine lv_goto hx hb dL_distance_10 (tgt := 17) (by decide) ?_
    refine lv_iconst hx hb dL_distance_17 (v := 0) (by decide) ?_
    exact wr_ret hx hb hr hlocks hP2 hS2 hp (by decide) (by decide) dL_distance_18
def rmL_state : Room := { frames := 7, cells := 1, slots := 6, locals := 111 }
def cdl_state : List (Nat × Int32) := [(2, 1)]
set_option maxRecDepth 20000 in
theorem wr_state (l : Launch) (hlt : l.stackTraces = false) (D : va_G) (ad : ab_Ob → Nat) (base : Nat) (cy : Nat → ClassId) (sa : Nat → Nat) (x1 : Int32) (S : ab_S) (Qw : Int32 → ab_S → Prop) (hτ : Sp_X5_state [.inr (0, 0), .inl x1] S (wqI cdl_state Qw)) : Met l yL_state wsL_state rmL_state (wr_Pc D ad base cy sa [.inr (0, 0), .inl x1, .inr (41, 0)] S) (va_Qi Qw (ab_B D ad cy) (ab_A base)) rmL_state.cells rmL_state.slots (ab_A base) := by
  refine ab_ofx (XC := fun _ _ _ => False) (vx_ofWH (cc := cL_state) (maxL := 4) (ret := some .int) (by decide) rfl ?_) (fun _ _ _ h => h)
  intro p e s m args below meth c s₁ B hml hv
  obtain ⟨rfl, hoks, hbs, hP, hKn, hwK⟩ := hv
  have hx := B.exec
  have hb := B.bytes
  have hr := B.returns
  have hts := atoms_spec (ws := wsL_state) B.pre
  have hown : s.vm.findClass RL = some m.cls := findClass_of_methodNamed B.named
  have hlocks := B.notSynchronized
  have hT : c.exceptionTable.toList = tableOf [(0, 9, 12, 17)] := vx_table (x := yL_state) B (hts _ List.mem_cons_self)
  have h00 : (0 : Nat) < ab_nb 0 ∧ ad (0, 0) ≠ 0 := hoks (.inr (0, 0)) (by simp)
  have h41 : ad (41, 0) ≠ 0 := (hoks (.inr (41, 0)) (by simp) : _ ∧ _).2
  have hS : va_S (ab_A base) s.heap s.heap [] := va_S.rf
  have hl := lv_entry ([.ref (ad (0, 0)), .int x1, .ref (ad (41, 0))]) (n := 4) (Nat.le_of_ble_eq_true rfl)
  show W _ _ _ _ _ _ _ _ _ _ _ _ _ _ _ (entryFrame m ([.ref (ad (0, 0)), .int x1, .ref (ad (41, 0))] : List Value).toArray 4)
  rw [lg_entry_eq]
  generalize (lg_sl ([.ref (ad (0, 0)), .int x1, .ref (ad (41, 0))]) ++ List.replicate (4 - (lg_sl ([.ref (ad (0, 0)), .int x1, .ref (ad (41, 0))])).length) Slot.unset).toArray = ls at hl ⊢
  have hl : lv_has ls 4 [(0, .ref (ad (0, 0))), (1, .int x1), (2, .ref (ad (41, 0)))] := hl
  refine lv_aload_n hx hb dL_state_0 rfl (lv_at hl 2 rfl) ?_
  refine lv_iconst hx hb dL_state_1 (v := 0) (by decide) ?_
  refine lv_aload_n hx hb dL_state_2 rfl (lv_at hl 0 rfl) ?_
  refine lv_iload_n hx hb dL_state_3 rfl (lv_at hl 1 rfl) ?_
  have hrun := wr_run (R := (headSpec wsL_state rmL_state).room) (n := 1) (rest := [.int 0, .ref (ad (41, 0))]) (locs := []) (cells := 0) (slots := 0) (below := below) (e := e) (meth := meth) (ls := ls) (pc := 4) hx hb hml hown hts hKn hbs (so_X5_state l hlt) gL_state_X5_state (0, 0) rfl rfl ⟨by decide +kernel, by decide +kernel, by decide +kernel⟩ (by decide) h00 rfl [.inl x1] (by intro v hv; simp only [List.mem_cons, List.not_mem_nil, or_false] at hv; rcases hv with rfl <;> exact trivial) rfl (Nat.le_of_ble_eq_true rfl) hτ hP hS hl.1 dL_state_4 (by decide) (by decide)
  refine vx_calli (a := #[]) (S := ab_S) (SX := ab_S × Nat) hrun hS (fun q _ h => h) (fun q h => h) (fun q _ h => h) (fun E ce q9 u t H1 locs1 ht _ hpx hB _ _ hS1 hce hcv1 hcl1 => ?_) (fun r u t H1 locs1 ht _ hp hB _ _ hS1 => ?_)
  · obtain ⟨cv, hcode, hq⟩ := hpx
    obtain ⟨rfl, hB2⟩ := hB
    have hP1 : va_P D vwCl (ab_wl ad cy u.1) H1 := by rw [← ht]; exact hB2
    obtain ⟨S1, En⟩ := u
    simp only [cdl_state, List.mem_cons, List.not_mem_nil, or_false, Prod.mk.injEq] at hcode
    rcases hcode with ⟨rfl, rfl⟩
    · refine vx_catch (own := RL) (name := ab_ex 2) hown ([] : List ExceptionTableEntry) ⟨0, 9, 12, 17⟩ [] (by rw [hT]; rfl) ?_ (by decide) (by decide) (hts (.classLink RL 17 (ab_ex 2)) (by decide +kernel)) (va_Nw.use rfl (hKn.2.2.2.2.2.2.2 2 (by decide))) hce hcv1 hcl1 ?_
      · intro z hz
        cases hz
      · refine W.eq (g2 := F0 m 12 ls [.ref q9]) rfl ?_
        refine lv_astore_n hx hb dL_state_12 rfl hl (by decide) rfl (fun ls2 hl2 => ?_)
        refine lv_iconst hx hb dL_state_13 (v := 1) (by decide) ?_
        exact wr_ret hx hb hr hlocks hP1 hS1 hq (by decide) (by decide) dL_state_14
  · have hP1 : va_P D vwCl (ab_wl ad cy u) H1 := by rw [← ht]; exact hB
    refine lv_i2l hx hb dL_state_7 rfl ?_
    refine wr_last hx hb hKn hP1 hS1 h41 dL_state_8 (fun H2 locs2 hP2 hS2 => ?_)
    refine lv_goto hx hb dL_state_9 (tgt := 15) (by decide) ?_
    refine lv_iconst hx hb dL_state_15 (v := 0) (by decide) ?_
    exact wr_ret hx hb hr hlocks hP2 hS2 hp (by decide) (by decide) dL_state_16
def rmL_above : Room := { frames := 8, cells := 2, slots := 12, locals := 133 }
def cdl_above : List (Nat × Int32) := [(0, 1), (1, 2)]
set_option maxRecDepth 20000 in
theorem wr_above (l : Launch) (hlt : l.stackTraces = false) (D : va_G) (ad : ab_Ob → Nat) (base : Nat) (cy : Nat → ClassId) (sa : Nat → Nat) (x1 x2 : Int32) (S : ab_S) (Qw : Int32 → ab_S → Prop) (hτ : Sp_X5_above [.inr (0, 0), .inl x1, .inl x2] S (wqI cdl_above Qw)) : Met l yL_above wsL_above rmL_above (wr_Pc D ad base cy sa [.inr (0, 0), .inl x1, .inl x2, .inr (41, 0)] S) (va_Qi Qw (ab_B D ad cy) (ab_A base)) rmL_above.cells rmL_above.slots (ab_A base) := by
  refine ab_ofx (XC := fun _ _ _ => False) (vx_ofWH (cc := cL_above) (maxL := 5) (ret := some .int) (by decide) rfl ?_) (fun _ _ _ h => h)
  intro p e s m args below meth c s₁ B hml hv
  obtain ⟨rfl, hoks, hbs, hP, hKn, hwK⟩ := hv
  have hx := B.exec
  have hb := B.bytes
  have hr := B.returns
  have hts := atoms_spec (ws := wsL_above) B.pre
  have hown : s.vm.findClass RL = some m.cls := findClass_of_methodNamed B.named
  have hlocks := B.notSynchronized
  have hT : c.exceptionTable.toList = tableOf [(0, 10, 13, 13), (0, 10, 17, 15)] := vx_table (x := yL_above) B (hts _ List.mem_cons_self)
  have h00 : (0 : Nat) < ab_nb 0 ∧ ad (0, 0) ≠ 0 := hoks (.inr (0, 0)) (by simp)
  have h41 : ad (41, 0) ≠ 0 := (hoks (.inr (41, 0)) (by simp) : _ ∧ _).2
  have hS : va_S (ab_A base) s.heap s.heap [] := va_S.rf
  have hl := lv_entry ([.ref (ad (0, 0)), .int x1, .int x2, .ref (ad (41, 0))]) (n := 5) (Nat.le_of_ble_eq_true rfl)
  show W _ _ _ _ _ _ _ _ _ _ _ _ _ _ _ (entryFrame m ([.ref (ad (0, 0)), .int x1, .int x2, .ref (ad (41, 0))] : List Value).toArray 5)
  rw [lg_entry_eq]
  generalize (lg_sl ([.ref (ad (0, 0)), .int x1, .int x2, .ref (ad (41, 0))]) ++ List.replicate (5 - (lg_sl ([.ref (ad (0, 0)), .int x1, .int x2, .ref (ad (41, 0))])).length) Slot.unset).toArray = ls at hl ⊢
  have hl : lv_has ls 5 [(0, .ref (ad (0, 0))), (1, .int x1), (2, .int x2), (3, .ref (ad (41, 0)))] := hl
  refine lv_aload_n hx hb dL_above_0 rfl (lv_at hl 3 rfl) ?_
  refine lv_iconst hx hb dL_above_1 (v := 0) (by decide) ?_
  refine lv_aload_n hx hb dL_above_2 rfl (lv_at hl 0 rfl) ?_
  refine lv_iload_n hx hb dL_above_3 rfl (lv_at hl 1 rfl) ?_
  refine lv_iload_n hx hb dL_above_4 rfl (lv_at hl 2 rfl) ?_
  have hrun := wr_run (R := (headSpec wsL_above rmL_above).room) (n := 2) (rest := [.int 0, .ref (ad (41, 0))]) (locs := []) (cells := 0) (slots := 0) (below := below) (e := e) (meth := meth) (ls := ls) (pc := 5) hx hb hml hown hts hKn hbs (so_X5_above l hlt) gL_above_X5_above (0, 0) rfl rfl ⟨by decide +kernel, by decide +kernel, by decide +kernel⟩ (by decide) h00 rfl [.inl x1, .inl x2] (by intro v hv; simp only [List.mem_cons, List.not_mem_nil, or_false] at hv; rcases hv with rfl | rfl <;> exact trivial) rfl (Nat.le_of_ble_eq_true rfl) hτ hP hS hl.1 dL_above_5 (by decide) (by decide)
  refine vx_calli (a := #[]) (S := ab_S) (SX := ab_S × Nat) hrun hS (fun q _ h => h) (fun q h => h) (fun q _ h => h) (fun E ce q9 u t H1 locs1 ht _ hpx hB _ _ hS1 hce hcv1 hcl1 => ?_) (fun r u t H1 locs1 ht _ hp hB _ _ hS1 => ?_)
  · obtain ⟨cv, hcode, hq⟩ := hpx
    obtain ⟨rfl, hB2⟩ := hB
    have hP1 : va_P D vwCl (ab_wl ad cy u.1) H1 := by rw [← ht]; exact hB2
    obtain ⟨S1, En⟩ := u
    simp only [cdl_above, List.mem_cons, List.not_mem_nil, or_false, Prod.mk.injEq] at hcode
    rcases hcode with ⟨rfl, rfl⟩ | ⟨rfl, rfl⟩
    · refine vx_catch (own := RL) (name := ab_ex 0) hown ([] : List ExceptionTableEntry) ⟨0, 10, 13, 13⟩ [⟨0, 10, 17, 15⟩] (by rw [hT]; rfl) ?_ (by decide) (by decide) (hts (.classLink RL 13 (ab_ex 0)) (by decide +kernel)) (va_Nw.use rfl (hKn.2.2.2.2.2.2.2 0 (by decide))) hce hcv1 hcl1 ?_
      · intro z hz
        cases hz
      · refine W.eq (g2 := F0 m 13 ls [.ref q9]) rfl ?_
        refine lv_astore hx hb dL_above_13 hl (by decide) rfl (fun ls2 hl2 => ?_)
        refine lv_iconst hx hb dL_above_15 (v := 1) (by decide) ?_
        exact wr_ret hx hb hr hlocks hP1 hS1 hq (by decide) (by decide) dL_above_16
    · refine vx_catch (own := RL) (name := ab_ex 1) hown ([⟨0, 10, 13, 13⟩] : List ExceptionTableEntry) ⟨0, 10, 17, 15⟩ [] (by rw [hT]; rfl) ?_ (by decide) (by decide) (hts (.classLink RL 15 (ab_ex 1)) (by decide +kernel)) (va_Nw.use rfl (hKn.2.2.2.2.2.2.2 1 (by decide))) hce hcv1 hcl1 ?_
      · intro z hz
        simp only [List.mem_cons, List.not_mem_nil, or_false] at hz
        rcases hz with rfl
        · exact Or.inr ⟨by decide, ab_ex 0, hts (.classLink RL 13 (ab_ex 0)) (by decide +kernel), hwK 1 (by decide) 0 (by decide) (by decide)⟩
      · refine W.eq (g2 := F0 m 17 ls [.ref q9]) rfl ?_
        refine lv_astore hx hb dL_above_17 hl (by decide) rfl (fun ls2 hl2 => ?_)
        refine lv_iconst hx hb dL_above_19 (v := 2) (by decide) ?_
        exact wr_ret hx hb hr hlocks hP1 hS1 hq (by decide) (by decide) dL_above_20
  · have hP1 : va_P D vwCl (ab_wl ad cy u) H1 := by rw [← ht]; exact hB
    refine lv_i2l hx hb dL_above_8 rfl ?_
    refine wr_last hx hb hKn hP1 hS1 h41 dL_above_9 (fun H2 locs2 hP2 hS2 => ?_)
    refine lv_goto hx hb dL_above_10 (tgt := 21) (by decide) ?_
    refine lv_iconst hx hb dL_above_21 (v := 0) (by decide) ?_
    exact wr_ret hx hb hr hlocks hP2 hS2 hp (by decide) (by decide) dL_above_22
