/-! What a constructor owes; new objects, new arrays, the tail as the abstract machine goes. -/
def cn_Pre (D : va_G) (ci : Nat) (fs : List Value) (a : Nat) (cy : Nat → ClassId) (sa : Nat → Nat) : Array Value → State → Prop := va_Pc [.ref a] (fun U => 0 < a ∧ va_at D vwCl (a, .inr (ci, fs)) U.heap ∧ cn_K D a cy sa U)
def cn_B (D : va_G) (a : Nat) (cy : Nat → ClassId) (u : (ab_Ob → Nat) × ab_S) (t : State) : Prop := va_P D vwCl (ab_wl u.1 cy u.2) t.heap ∧ va_D (ab_A a) (ab_wl u.1 cy u.2)
def cn_Post (D : va_G) (a : Nat) (cy : Nat → ClassId) (root : ab_Ob) (pr : ab_Ob → Bool) (P : ab_S → Prop) : Array Value → State → Outcome → State → Prop := va_Qv (fun u : (ab_Ob → Nat) × ab_S => u.1 root = a ∧ cn_pr u.1 pr ∧ P u.2) (cn_B D a cy) (ab_A a)
def cn_Sound (l : Launch) (y : MethodName) (ws : List Cond) (rm : Room) (ci : Nat) (fs : List Value) (root : ab_Ob) (pr : ab_Ob → Bool) (P : ab_S → Prop) : Prop := ∀ (D : va_G) (a : Nat) (cy : Nat → ClassId) (sa : Nat → Nat), Met l y ws rm (cn_Pre D ci fs a cy sa) (cn_Post D a cy root pr P) rm.cells rm.slots (ab_A a)
theorem cn_blind (D : va_G) (ci : Nat) (fs : List Value) (a : Nat) (cy : Nat → ClassId) (sa : Nat → Nat) : FrameBlind (cn_Pre D ci fs a cy sa) := by
  intro x U g mk q
  obtain ⟨h1, h2, h3, h4⟩ := q
  exact ⟨h1, h2, h3, cn_K.same (u := U) (U := U.calling g mk x) rfl rfl h4⟩
theorem cn_find {U : State} {cA : ClassId} {ty : FieldType} (h : va_RA U cA ty) : U.vm.findClass ("[" ++ ty.toString) = some cA := by
  cases ty with
  | object C => obtain ⟨kA, comp, -, -, -, h⟩ := h; exact h
  | _ => exact h
theorem cn_mono {below : List Frame} {Qc Qc' : Array Value → State → Outcome → State → Prop} {XC XC' : String → State → State → Prop} {a : Array Value} {s : State} {mc ms : Nat} {free : Addr → Prop} {t : State} (hq : ∀ o t, Qc a s o t → Qc' a s o t) (hx : ∀ E t, ¬ XC E s t) (h : vx_MQ below Qc XC a s mc ms free t) : vx_MQ below Qc' XC' a s mc ms free t := by
  obtain ⟨o, h1, h2, h3⟩ := h
  refine ⟨o, h1, h2, ?_⟩
  rcases h3 with ⟨h3, h4⟩ | ⟨q, ho, E, ce, L, h, -⟩
  · exact Or.inl ⟨hq o t h3, h4⟩
  · exact absurd h (hx _ _)
section CNR
variable {p : Program} {l : Launch} {e : Env} {R : Room} {s : State} {m : MethodId} {args : Array Value} {below : List Frame} {meth : Method} {c : Code} {cc : ByteArray}
variable {D : va_G} {base : Nat} {cy : Nat → ClassId} {sa : Nat → Nat} {own : String} {Ts : List Cond} {nL : Nat} {H : Heap} {locs : List Loc} {cells slots : Nat} {Q : State → Prop} {W0 : va_W} {pc : Nat} {ls : Array Slot} {rest : List Value}
theorem cn_new (hx : p.tables.exec = Jvm.exec) (hb : c.code = cc) (hml : c.maxLocals = nL) (hown : s.vm.findClass own = some m.cls) (hts : ∀ w ∈ Ts, w.before args s = true) (hK : cn_K D base cy sa s) (hbp : 0 < base) (hbs : base ≤ s.heap.size)
    {y : MethodName} {ws ws' : List Cond} {rm : Room} {C : String} {T : u_T} {N ci : Nat} {fs : List Value} {root : ab_Ob} {pr : ab_Ob → Bool} {P : ab_S → Prop} {bytes : ByteArray} {maxL idx ic : Nat}
    (hcs : cn_Sound l y ws rm ci fs root pr P) (hc : vwCl[ci]? = some (C, T, N)) (ty : Nat → FieldType) (hty : ∀ k, k < N → parseFieldDescriptor (T k).2.2.1 = some (ty k)) (hfs : ∀ j, j < N → defaultValue (ty j) = vp_V fs j) (hin : ∀ w ∈ u_ws C T N, w ∈ Ts)
    (w1 : Cond.classLink own idx C ∈ Ts) (w2 : Cond.instantiable C N ∈ Ts) (w3 : Cond.initialized C ∈ Ts) (hyc : y.cls = C) (hG : GoodIn Ts ws) (hw : ws = Cond.code y bytes maxL none :: ws') (w4 : Cond.methodLink own ic y ∈ Ts) (w5 : Cond.instanceMethod y ∈ Ts) (hy1 : y.name = "<init>")
    (hnm : y.cls ≠ "java/lang/invoke/MethodHandle" ∧ y.cls ≠ "java/lang/invoke/VarHandle" ∧ (parseMethodDescriptor y.desc).map (fun d => d.parameters.length) = some 0) (hRm : rm.frames + 1 ≤ R.frames ∧ 8 + (maxL + 11) + rm.locals ≤ R.locals)
    (hls : ls.size = nL) (hst : (rest.map fun v => v.category).sum ≤ 7) (d0 : decode cc pc = .ok (.new idx, 3)) (d3 : decode cc (pc + 3) = .ok (.dup, 1)) (d4 : decode cc (pc + 4) = .ok (.invokespecial ic, 3))
    (hcell : cells + 1 + rm.cells ≤ R.cells) (hslot : slots + N + rm.slots ≤ R.slots) (hP : va_P D vwCl W0 H) (hD : va_D (ab_A base) W0) (hS : va_S (ab_A base) s.heap H locs)
    (kk : ∀ (q : Nat) (ad : ab_Ob → Nat) (S : ab_S) (H1 : Heap) (locs1 : List Loc), base ≤ q → ad root = q → cn_pr ad pr → P S → va_P D vwCl (W0 ++ ab_wl ad cy S) H1 → va_D (ab_A base) (W0 ++ ab_wl ad cy S) → va_S (ab_A base) s.heap H1 locs1 →
      W p l e R s m args below meth c H1 locs1 (cells + 1 + rm.cells) (slots + N + rm.slots) Q (F0 m (pc + 7) ls (.ref q :: rest))) : W p l e R s m args below meth c H locs cells slots Q (F0 m pc ls rest) := by
  have hKn := hK.1.1 ci _ hc
  have hq : base ≤ H.size := Nat.le_trans hbs hS.1
  refine W.newcK hx hb hown (hts _ w1) (hts _ w2) (hts _ w3) rfl d0 (by omega) (by omega) hKn.2.1 rfl fun H1 kC hkC e1 z1 o1 => ?_
  have hat : va_at D vwCl (H.size, .inr (ci, fs)) H1 := ⟨_, hc, (u_born ty hts hin hKn hkC e1 hty).to hfs⟩
  have hS1 : va_S (ab_A base) s.heap H1 locs := ⟨Nat.le_trans hS.1 (by omega), fun x h1 h2 => (o1 x (Nat.lt_of_lt_of_le h1 hS.1)).trans (hS.2.1 x h1 h2), hS.2.2⟩
  refine W.eq (g2 := F0 m (pc + 3) ls (.ref H.size :: rest)) rfl ?_
  refine lv_dup hx hb d3 rfl ?_
  refine va_callv (va_runI (As := []) (rest := .ref H.size :: rest) ⟨hx, hb, hml, hown, hts⟩ (hcs D H.size cy sa) (cwI 0 hts hG hw rfl rfl (by rw [hyc]; exact hts _ w3) (hts _ w4) (hts _ w5) hy1 hnm hRm) ⟨cn_blind _ _ _ _ _ _, fun U hU hW => ⟨rfl, by omega, by rw [hU]; exact hat, (cn_K.warm hW (by rw [hU]; exact hS1.2.1) hK).up hq⟩⟩ rfl rfl hls rfl (lv_room (by simp only [List.map_cons, List.sum_cons]; show 1 + _ ≤ 8; omega)) d4 ⟨by omega, by omega⟩) hS1 (fun q _ h => Nat.le_trans hq h) (fun q h => Nat.le_trans hq h) (fun u t H2 locs2 ht hal hp hB hz2 hk2 hS2 => ?_)
  obtain ⟨hr, hpr, hPS⟩ := hp
  obtain ⟨hP2, hD2⟩ := hB
  rw [ht] at hP2
  refine kk H.size u.1 u.2 H2 locs2 hq hr hpr hPS (cn_Papp.mpr ⟨hP.kept (fun k x hk => ?_), hP2⟩) (cn_Dapp.mpr ⟨hD, hD2.weaken (fun k x _ h => Nat.le_trans hq h), fun x hx y hy => ?_⟩) hS2
  · have hlt := (hP k x hk).lt
    exact (hk2 x.1 (by omega) (fun h => by have : H.size ≤ x.1 := h; omega)).trans (o1 x.1 hlt)
  · have hlt := (cn_Piff.mp hP x hx).lt
    have hge : H.size ≤ y.1 := (cn_Diff.mp hD2).2 y hy
    omega
/-- a private constructor of the nest -/
theorem cn_newN (hx : p.tables.exec = Jvm.exec) (hb : c.code = cc) (hml : c.maxLocals = nL) (hown : s.vm.findClass own = some m.cls) (hts : ∀ w ∈ Ts, w.before args s = true) (hK : cn_K D base cy sa s) (hbp : 0 < base) (hbs : base ≤ s.heap.size)
    {y : MethodName} {ws ws' : List Cond} {rm : Room} {C : String} {T : u_T} {N ci : Nat} {fs : List Value} {root : ab_Ob} {pr : ab_Ob → Bool} {P : ab_S → Prop} {bytes : ByteArray} {maxL idx ic : Nat}
    (hcs : cn_Sound l y ws rm ci fs root pr P) (hc : vwCl[ci]? = some (C, T, N)) (ty : Nat → FieldType) (hty : ∀ k, k < N → parseFieldDescriptor (T k).2.2.1 = some (ty k)) (hfs : ∀ j, j < N → defaultValue (ty j) = vp_V fs j) (hin : ∀ w ∈ u_ws C T N, w ∈ Ts)
    (w1 : Cond.classLink own idx C ∈ Ts) (w2 : Cond.instantiable C N ∈ Ts) (w3 : Cond.initialized C ∈ Ts) (hyc : y.cls = C) (hG : GoodIn Ts ws) (hw : ws = Cond.code y bytes maxL none :: ws') {host : String} (w4 : va_Nw (.methodLinkNest own ic y host) s) (w5 : Cond.instanceMethod y ∈ Ts) (hy1 : y.name = "<init>")
    (hnm : y.cls ≠ "java/lang/invoke/MethodHandle" ∧ y.cls ≠ "java/lang/invoke/VarHandle" ∧ (parseMethodDescriptor y.desc).map (fun d => d.parameters.length) = some 0) (hRm : rm.frames + 1 ≤ R.frames ∧ 8 + (maxL + 11) + rm.locals ≤ R.locals)
    (hls : ls.size = nL) (hst : (rest.map fun v => v.category).sum ≤ 7) (d0 : decode cc pc = .ok (.new idx, 3)) (d3 : decode cc (pc + 3) = .ok (.dup, 1)) (d4 : decode cc (pc + 4) = .ok (.invokespecial ic, 3))
    (hcell : cells + 1 + rm.cells ≤ R.cells) (hslot : slots + N + rm.slots ≤ R.slots) (hP : va_P D vwCl W0 H) (hD : va_D (ab_A base) W0) (hS : va_S (ab_A base) s.heap H locs)
    (kk : ∀ (q : Nat) (ad : ab_Ob → Nat) (S : ab_S) (H1 : Heap) (locs1 : List Loc), base ≤ q → ad root = q → cn_pr ad pr → P S → va_P D vwCl (W0 ++ ab_wl ad cy S) H1 → va_D (ab_A base) (W0 ++ ab_wl ad cy S) → va_S (ab_A base) s.heap H1 locs1 →
      W p l e R s m args below meth c H1 locs1 (cells + 1 + rm.cells) (slots + N + rm.slots) Q (F0 m (pc + 7) ls (.ref q :: rest))) : W p l e R s m args below meth c H locs cells slots Q (F0 m pc ls rest) := by
  have hKn := hK.1.1 ci _ hc
  have hq : base ≤ H.size := Nat.le_trans hbs hS.1
  refine W.newcK hx hb hown (hts _ w1) (hts _ w2) (hts _ w3) rfl d0 (by omega) (by omega) hKn.2.1 rfl fun H1 kC hkC e1 z1 o1 => ?_
  have hat : va_at D vwCl (H.size, .inr (ci, fs)) H1 := ⟨_, hc, (u_born ty hts hin hKn hkC e1 hty).to hfs⟩
  have hS1 : va_S (ab_A base) s.heap H1 locs := ⟨Nat.le_trans hS.1 (by omega), fun x h1 h2 => (o1 x (Nat.lt_of_lt_of_le h1 hS.1)).trans (hS.2.1 x h1 h2), hS.2.2⟩
  refine W.eq (g2 := F0 m (pc + 3) ls (.ref H.size :: rest)) rfl ?_
  refine lv_dup hx hb d3 rfl ?_
  refine va_callv (va_runIN (As := []) (rest := .ref H.size :: rest) ⟨hx, hb, hml, hown, hts⟩ (hcs D H.size cy sa) ⟨va_cnB 0 hts hG hw rfl rfl w4 (by rw [hyc]; exact hts _ w3) hnm hRm, hy1, hts _ w5⟩ ⟨cn_blind _ _ _ _ _ _, fun U hU hW => ⟨rfl, by omega, by rw [hU]; exact hat, (cn_K.warm hW (by rw [hU]; exact hS1.2.1) hK).up hq⟩⟩ rfl rfl hls rfl (lv_room (by simp only [List.map_cons, List.sum_cons]; show 1 + _ ≤ 8; omega)) d4 ⟨by omega, by omega⟩) hS1 (fun q _ h => Nat.le_trans hq h) (fun q h => Nat.le_trans hq h) (fun u t H2 locs2 ht hal hp hB hz2 hk2 hS2 => ?_)
  obtain ⟨hr, hpr, hPS⟩ := hp
  obtain ⟨hP2, hD2⟩ := hB
  rw [ht] at hP2
  refine kk H.size u.1 u.2 H2 locs2 hq hr hpr hPS (cn_Papp.mpr ⟨hP.kept (fun k x hk => ?_), hP2⟩) (cn_Dapp.mpr ⟨hD, hD2.weaken (fun k x _ h => Nat.le_trans hq h), fun x hx y hy => ?_⟩) hS2
  · have hlt := (hP k x hk).lt
    exact (hk2 x.1 (by omega) (fun h => by have : H.size ≤ x.1 := h; omega)).trans (o1 x.1 hlt)
  · have hlt := (cn_Piff.mp hP x hx).lt
    have hge : H.size ≤ y.1 := (cn_Diff.mp hD2).2 y hy
    omega
theorem cn_newa (hx : p.tables.exec = Jvm.exec) (hb : c.code = cc) (hts : ∀ w ∈ Ts, w.before args s = true) (hK : cn_K D base cy sa s) (hbs : base ≤ s.heap.size) {atype : ArrayType} {ty : FieldType} (t : Nat) (ht : (ab_tys cy)[t]? = some (cy t, ty)) (hty : newarray.typeOf atype = ty) (w : Cond.arrayClass ty ∈ Ts)
    (hP : va_P D vwCl W0 H) (hD : va_D (ab_A base) W0) (hS : va_S (ab_A base) s.heap H locs) {n : Int32} {N' : Nat} (a0 : vp_A) (ha : ∀ cA : ClassId, vp_cell cA a0 = arrV cA N' (fun _ => defaultValue ty)) (hn : ¬ n < 0) (hN : n.toNatClampNeg = N') (hbytes : N' * componentBytes ty ≤ 536870912) (hcells : cells + 1 ≤ R.cells) (hslots : slots + N' ≤ R.slots) (hdg : decode cc pc = .ok (.newarray atype, 2))
    (kk : ∀ (q : Nat) (H1 : Heap), base ≤ q → va_P D vwCl (W0 ++ [(q, .inl (cy t, a0))]) H1 → va_D (ab_A base) (W0 ++ [(q, .inl (cy t, a0))]) → va_S (ab_A base) s.heap H1 locs →
      W p l e R s m args below meth c H1 locs (cells + 1) (slots + N') Q (F0 m (pc + 2) ls (.ref q :: rest))) : W p l e R s m args below meth c H locs cells slots Q (F0 m pc ls (.int n :: rest)) := by
  refine va_newa hx hb (by rw [hty]; exact hts _ w) hty hK.1 hP hD hS (fun q h => Nat.le_trans hbs h) ha hn hN hbytes hcells hslots hdg (fun q cA H1 hK1 hP1 hD1 hS1 => ?_)
  have e1 := cn_find (hK.1.2 t _ ht).2
  have e2 := cn_find (hK1.2 5 _ rfl).2
  cases e1.symm.trans e2
  exact kk q H1 ((cn_Diff.mp hD1).2 (q, _) (List.mem_append_right _ List.mem_cons_self)) hP1 hD1 hS1
/-- a reference into a final field of this -/
theorem cn_put (hx : p.tables.exec = Jvm.exec) (hb : c.code = cc) (hown : s.vm.findClass own = some m.cls) (hts : ∀ w ∈ Ts, w.before args s = true) (hK : cn_K D base cy sa s) (hin0 : meth.name = "<init>") {a ci N idx : Nat} {T : u_T} {fs : List Value} {as : va_W}
    (hP : va_P D vwCl ((a, .inr (ci, fs)) :: as) H) (hD : va_D (ab_A base) ((a, .inr (ci, fs)) :: as)) (hS : va_S (ab_A base) s.heap H locs) (hc : vwCl[ci]? = some (own, T, N)) (hin : ∀ w ∈ u_ws own T N, w ∈ Ts) (ty : Nat → FieldType) (hty : ∀ k, k < N → parseFieldDescriptor (T k).2.2.1 = some (ty k)) (hnm : ∀ a, a < N → ∀ b, b < N → a ≠ b → (T a).2.1 ≠ (T b).2.1)
    (k : Nat) (hk : k < N) (hkl : k < fs.length) (wl : Cond.fieldLink own idx (T k).1 (T k).2.1 (T k).2.2.1 ∈ Ts) (hf : (T k).2.2.2 = true ∧ (T k).1 = own) {q : Nat} (hfit : narrow (ty k) (.ref q) = .ref q ∧ fits (ty k) (.ref q) = true) (hdg : decode cc pc = .ok (.putfield idx, 3))
    (kk : ∀ (H1 : Heap) (locs1 : List Loc), va_P D vwCl ((a, .inr (ci, fs.set k (.ref q))) :: as) H1 → va_D (ab_A base) ((a, .inr (ci, fs.set k (.ref q))) :: as) → va_S (ab_A base) s.heap H1 locs1 → W p l e R s m args below meth c H1 locs1 cells slots Q (F0 m (pc + 3) ls rest)) : W p l e R s m args below meth c H locs cells slots Q (F0 m pc ls (.ref q :: .ref a :: rest)) :=
  va_putF hx hb hts hin ty hty hnm hown hK.1 hP hD hS 0 rfl hc k hk (hts _ wl) (fun x h => h) hf.1 hin0 hf.2 (hty k hk) hfit.1 hfit.2 hkl hdg kk
/-- a new array of ints into a final field of this -/
theorem cn_arr (hx : p.tables.exec = Jvm.exec) (hb : c.code = cc) (hown : s.vm.findClass own = some m.cls) (hts : ∀ w ∈ Ts, w.before args s = true) (hK : cn_K D base cy sa s) (hbs : base ≤ s.heap.size) (hin0 : meth.name = "<init>") {a ci N : Nat} {T : u_T} {fs : List Value} {as : va_W}
    (hP : va_P D vwCl ((a, .inr (ci, fs)) :: as) H) (hD : va_D (ab_A base) ((a, .inr (ci, fs)) :: as)) (hS : va_S (ab_A base) s.heap H locs) (hc : vwCl[ci]? = some (own, T, N)) (hin : ∀ w ∈ u_ws own T N, w ∈ Ts) (ty : Nat → FieldType) (hty : ∀ k, k < N → parseFieldDescriptor (T k).2.2.1 = some (ty k)) (hnm : ∀ a, a < N → ∀ b, b < N → a ≠ b → (T a).2.1 ≠ (T b).2.1)
    {atype : ArrayType} {aty : FieldType} (t : Nat) (ht : (ab_tys cy)[t]? = some (cy t, aty)) (hat : newarray.typeOf atype = aty) (w : Cond.arrayClass aty ∈ Ts) (hdef : defaultValue aty = .int 0) {n : Int32} {N' : Nat} (hn : ¬ n < 0) (hN : n.toNatClampNeg = N') (hbytes : N' * componentBytes aty ≤ 536870912) (hcells : cells + 1 ≤ R.cells) (hslots : slots + N' ≤ R.slots) (d0 : decode cc pc = .ok (.newarray atype, 2))
    {idx : Nat} (k : Nat) (hk : k < N) (hkl : k < fs.length) (wl : Cond.fieldLink own idx (T k).1 (T k).2.1 (T k).2.2.1 ∈ Ts) (hf : (T k).2.2.2 = true ∧ (T k).1 = own) (hfit : ∀ q : Nat, narrow (ty k) (.ref q) = .ref q ∧ fits (ty k) (.ref q) = true) (hdg : decode cc (pc + 2) = .ok (.putfield idx, 3))
    (kk : ∀ (q : Nat) (H1 : Heap) (locs1 : List Loc), base ≤ q → va_P D vwCl ((a, .inr (ci, fs.set k (.ref q))) :: (as ++ [(q, .inl (cy t, N', .inl (fun _ => 0)))])) H1 → va_D (ab_A base) ((a, .inr (ci, fs.set k (.ref q))) :: (as ++ [(q, .inl (cy t, N', .inl (fun _ => 0)))])) → va_S (ab_A base) s.heap H1 locs1 →
      W p l e R s m args below meth c H1 locs1 (cells + 1) (slots + N') Q (F0 m (pc + 5) ls rest)) : W p l e R s m args below meth c H locs cells slots Q (F0 m pc ls (.int n :: .ref a :: rest)) := by
  refine cn_newa hx hb hts hK hbs t ht hat w hP hD hS (N', .inl (fun _ => 0)) (fun cA => by rw [hdef]; rfl) hn hN hbytes hcells hslots d0 (fun q H1 hq hP1 hD1 hS1 => ?_)
  have hP1 : va_P D vwCl ((a, .inr (ci, fs)) :: (as ++ [(q, .inl (cy t, N', .inl (fun _ => 0)))])) H1 := hP1
  have hD1 : va_D (ab_A base) ((a, .inr (ci, fs)) :: (as ++ [(q, .inl (cy t, N', .inl (fun _ => 0)))])) := hD1
  exact cn_put hx hb hown hts hK hin0 (as := as ++ [(q, .inl (cy t, N', .inl (fun _ => 0)))]) hP1 hD1 hS1 hc hin ty hty hnm k hk hkl wl hf (hfit q) hdg (fun H2 locs2 hP2 hD2 hS2 => kk q H2 locs2 hq hP2 hD2 hS2)
/-- the rest of a constructor, its world whole -/
theorem cn_tail {M : ab_M} {ad : ab_Ob → Nat} {S : ab_S} {root : ab_Ob} {pr : ab_Ob → Bool} {P : ab_S → Prop} {Qt : ab_Po} {a : Nat} (hok : ab_Ok l own Ts R 0 M) (hx : p.tables.exec = Jvm.exec) (hb : c.code = ab_cc M) (hml : c.maxLocals = 1) (hr : meth.sig.returnType = none) (hrk : ab_rk M = 0) (hown : s.vm.findClass own = some m.cls) (hts : ∀ w ∈ Ts, w.before args s = true) (hK : cn_K D a cy sa s) (hbs : a ≤ s.heap.size) (hout : ∀ x ∈ c.exceptionTable.toList, False) (hlocks : meth.locks = false)
    (hroot : ad root = a) (ha0 : 0 < a) (hrid : root ∈ ab_ids) (hpr : cn_pr ad pr) (hcl : cn_clb pr = true) (hP : va_P D vwCl (ab_wl ad cy S) H) (hD : va_D (ab_A a) (ab_wl ad cy S)) (hS : va_S (ab_A a) s.heap H locs) (hl : lv_has ls 1 [(0, .ref a)])
    (hX : ∀ E S', ¬ Qt (.inr E) S') (hE : ∀ S', Qt (.inl none) S' → ∃ S2, P S2 ∧ ∀ o, o ∈ ab_ids → ad o ≠ 0 → ∀ j, j < cn_sz o.1 → S2 o.1 o.2 j = S' o.1 o.2 j)
    (hc1 : cells ≤ ab_K M) (hs1 : slots ≤ 6 * ab_K M) (hG : ∀ G, ab_Cl M Qt G → G pc [some (.inr root)] [] S (ab_K M)) :
    W p l e R s m args below meth c H locs cells slots (vx_MQ below (cn_Post D a cy root pr P) (fun _ _ _ => False) args s (ab_K M) (6 * ab_K M) (ab_A a)) (F0 m pc ls []) := by
  have hcd := hpr.cld hcl
  have hKn := hK.kn hD hcd
  have hC : ab_Cl M Qt (ab_GE p l e R s m args below meth c D ad a cy 1 0 Qt (ab_K M)) := ab_closed hok hx hb hml (by rw [hr, hrk]; rfl) hown hts hKn hbs hout hlocks
  have h1 := hG _ hC H locs ls rfl (fun _ h => by cases h) (fun v hv => by
    rcases List.mem_cons.mp hv with h | h
    · cases h
      exact ⟨cn_ids.mp hrid, by rw [hroot]; omega⟩
    · cases h) hP hS (by
      have : ab_lv ad [some (.inr root)] = [(0, .ref a)] := by rw [← hroot]; rfl
      rw [this]; exact hl)
  refine W.widen hc1 hs1 ?_
  intro T hT X
  obtain ⟨t, st, ht⟩ := h1 T hT X
  refine ⟨t, st, cn_mono (fun o t h => ?_) (fun E t h => ?_) ht⟩
  · obtain ⟨⟨S', ho, hq, hB⟩, hF⟩ := h
    obtain ⟨S2, h2, h3⟩ := hE S' hq
    exact ⟨⟨(ad, S2), ho, ⟨hroot, hpr, h2⟩, cn_re hcd h3 hB, ab_D hD⟩, hF⟩
  · obtain ⟨u, hu, -⟩ := h
    exact hX _ _ hu
end CNR
