/-! A method's contract out of what the abstract machine says of it. -/
def ab_B (D : va_G) (ad : ab_Ob → Nat) (cy : Nat → ClassId) (S' : ab_S) (t : State) : Prop := va_P D vwCl (ab_wl ad cy S') t.heap
def ab_Qc (ri : Nat) (D : va_G) (ad : ab_Ob → Nat) (base : Nat) (cy : Nat → ClassId) (Q : ab_Po) : Array Value → State → Outcome → State → Prop := match ri with
  | 0 => va_Qv (fun S' => Q (.inl none) S') (ab_B D ad cy) (ab_A base)
  | _ => va_Qi (fun r S' => Q (.inl (some r)) S') (ab_B D ad cy) (ab_A base)
def ab_Xc (D : va_G) (ad : ab_Ob → Nat) (base : Nat) (cy : Nat → ClassId) (Q : ab_Po) : String → State → State → Prop := vx_X (fun u : ab_S × Nat => Q (.inr u.2) u.1) (fun E u t => E = ab_ex u.2 ∧ ab_B D ad cy u.1 t) (ab_A base)
def ab_Pc (D : va_G) (ad : ab_Ob → Nat) (base : Nat) (cy : Nat → ClassId) (sa : Nat → Nat) (vs : List ab_V) (S : ab_S) : Array Value → State → Prop := va_Pc (vs.map (ab_val ad)) (fun U => ab_oks ad vs ∧ base ≤ U.heap.size ∧ va_P D vwCl (ab_wl ad cy S) U.heap ∧ ab_Kn D ad base cy sa U)
/-- the method y does what τ says, and makes no more than its room has -/
def ab_Sound (l : Launch) (y : MethodName) (ws : List Cond) (rm : Room) (ri : Nat) (τ : ab_TR) : Prop := ∀ (D : va_G) (ad : ab_Ob → Nat) (base : Nat) (cy : Nat → ClassId) (sa : Nat → Nat) (vs : List ab_V) (S : ab_S) (Q : ab_Po), τ vs S Q →
  vx_Met l y ws rm (ab_Pc D ad base cy sa vs S) (ab_Qc ri D ad base cy Q) (ab_Xc D ad base cy Q) rm.cells rm.slots (ab_A base)
theorem ab_blind (D : va_G) (ad : ab_Ob → Nat) (base : Nat) (cy : Nat → ClassId) (sa : Nat → Nat) (vs : List ab_V) (S : ab_S) : FrameBlind (ab_Pc D ad base cy sa vs S) := by
  intro a U g mk q
  obtain ⟨h1, h2, h3, h4, h5⟩ := q
  exact ⟨h1, h2, h3, h4, ab_Kn.same (u := U) (U := U.calling g mk a) rfl rfl h5⟩
def ab_sok (n kc : Nat) (own : String) (Ts : List Cond) (R : Room) (y : MethodName) (bytes : ByteArray) (maxL : Nat) (ret : Option FieldType) (ws ws' : List Cond) (rm : Room) : Prop :=
  ws = Cond.code y bytes maxL ret :: ws' ∧ rm.cells = kc ∧ rm.slots = 6 * kc ∧ (y.cls ≠ "java/lang/invoke/MethodHandle" ∧ y.cls ≠ "java/lang/invoke/VarHandle" ∧ (parseMethodDescriptor y.desc).map (fun d => d.parameters.length) = some n) ∧ (rm.frames + 1 ≤ R.frames ∧ 8 + (maxL + 11) + rm.locals ≤ R.locals)
def ab_vok (l : Launch) (own : String) (Ts : List Cond) (R : Room) (idx rc n ri kc : Nat) (τ : ab_TR) : Prop := ∃ (y : MethodName) (bytes : ByteArray) (maxL : Nat) (ret : Option FieldType) (ws ws' : List Cond) (rm : Room), ab_Sound l y ws rm ri τ ∧ GoodIn Ts (wsV own idx y.cls y ws) ∧ (vwCl.getD rc (RX0, TX0, 0)).1 = y.cls ∧ ab_sok n kc own Ts R y bytes maxL ret ws ws' rm
def ab_tok (l : Launch) (own : String) (Ts : List Cond) (R : Room) (idx n ri kc : Nat) (τ : ab_TR) : Prop := ∃ (y : MethodName) (bytes : ByteArray) (maxL : Nat) (ret : Option FieldType) (ws ws' : List Cond) (rm : Room), ab_Sound l y ws rm ri τ ∧ GoodIn Ts (va_wsS own idx y ws) ∧ ab_sok n kc own Ts R y bytes maxL ret ws ws' rm
def ab_nok (l : Launch) (own : String) (Ts : List Cond) (R : Room) (idx n ri kc : Nat) (τ : ab_TR) : Prop := (own, idx) ∈ ab_nest ∧ ∃ (bytes : ByteArray) (maxL : Nat) (ret : Option FieldType) (ws ws' : List Cond) (rm : Room), ab_Sound l yX5_isIn ws rm ri τ ∧ GoodIn Ts ws ∧ Cond.initialized yX5_isIn.cls ∈ Ts ∧ Cond.static yX5_isIn ∈ Ts ∧ ab_sok n kc own Ts R yX5_isIn bytes maxL ret ws ws' rm
def ab_thok (own : String) (Ts : List Cond) (R : Room) (cc : ByteArray) (pc E : Nat) : Prop := ∃ (ik is ic : Nat) (text : String) (names : List String), own = RX5 ∧ (is, text) ∈ ab_strs ∧ Bundle.fit (ab_ex E) = true ∧ (∀ n ∈ names, Bundle.fit n = true) ∧ Cond.classLink own ik (ab_ex E) ∈ Ts ∧ Cond.initialized (ab_ex E) ∈ Ts ∧ (∀ w ∈ (vx_atS own ic (ab_ex E) names).filter goodWord, w ∈ Ts) ∧ (∀ w ∈ (vx_atS own ic (ab_ex E) names).filter (fun w => !goodWord w), w ∈ ab_nw) ∧
  (∀ w ∈ Cond.classLink own ik (ab_ex E) :: Cond.initialized (ab_ex E) :: vx_atS own ic (ab_ex E) names, vx_ot w = true) ∧ decode cc pc = .ok (.new ik, 3) ∧ decode cc (pc + 3) = .ok (.dup, 1) ∧ decode cc (pc + 4) = .ok (.ldc is, 2) ∧ decode cc (pc + 6) = .ok (.invokespecial ic, 3) ∧ decode cc (pc + 9) = .ok (.athrow, 1) ∧
  names.length + 3 < R.frames ∧ 8 + (13 * (names.length + 1) + 43) ≤ R.locals
theorem ab_oks_rev {ad : ab_Ob → Nat} {as : List ab_V} {st : List ab_V} (h : ab_oks ad (as.reverse ++ st)) : ab_oks ad as ∧ ab_oks ad st := ⟨fun v hv => h v (List.mem_append_left _ (List.mem_reverse.mpr hv)), fun v hv => h v (List.mem_append_right _ hv)⟩
section ABC
variable {p : Program} {l : Launch} {e : Env} {R : Room} {s : State} {m : MethodId} {args : Array Value} {below : List Frame} {meth : Method} {c : Code}
variable {D : va_G} {ad : ab_Ob → Nat} {base : Nat} {cy : Nat → ClassId} {sa : Nat → Nat} {own : String} {Ts : List Cond} {M : ab_M} {Q : ab_Po} {nL ri0 : Nat}
/-- the end that a method owes -/
abbrev ab_End (below : List Frame) (args : Array Value) (s : State) (ri0 : Nat) (D : va_G) (ad : ab_Ob → Nat) (base : Nat) (cy : Nat → ClassId) (Q : ab_Po) (K : Nat) : State → Prop := vx_MQ below (ab_Qc ri0 D ad base cy Q) (ab_Xc D ad base cy Q) args s K (6 * K) (ab_A base)
abbrev ab_GE (p : Program) (l : Launch) (e : Env) (R : Room) (s : State) (m : MethodId) (args : Array Value) (below : List Frame) (meth : Method) (c : Code) (D : va_G) (ad : ab_Ob → Nat) (base : Nat) (cy : Nat → ClassId) (nL ri0 : Nat) (Q : ab_Po) (K : Nat) : ab_Gt := ab_G p l e R s m args below meth c D ad base cy nL (ab_End below args s ri0 D ad base cy Q K)
/-- an exception of a callee goes on to the caller -/
theorem ab_kx {K : Nat} (hout : ∀ x ∈ c.exceptionTable.toList, False) (hlocks : meth.locks = false) {E : String} {ce : Cell} {q9 : Addr} {u : ab_S × Nat} {t : State} {H1 : Heap} {locs1 : List Loc} {pc k kc : Nat} {ls : Array Slot} {rest : List Value} (ht : t.heap = H1) (hq : Q (.inr u.2) u.1) (hB : E = ab_ex u.2 ∧ ab_B D ad cy u.1 t) (hS : va_S (ab_A base) s.heap H1 locs1) (hce : H1[q9]? = some ce) (hcv : ce.vm = .none) (hcl : s.vm.findClass E = some ce.cls) (hK : k + kc ≤ K) :
    vx_W p l e R s m args below meth c H1 locs1 (k + kc) (6 * k + 6 * kc) (ab_End below args s ri0 D ad base cy Q K) (F0 m pc ls rest) q9 := by
  refine vx_out (fun x hx => (hout x hx).elim) hlocks hce hcv hcl ?_ (fun z hz => hS.2.2 z hz) hK (by omega)
  intro t' ht' _
  refine ⟨u, hq, ⟨hB.1, ?_⟩, hS.F ht'⟩
  show va_P D vwCl _ t'.heap
  rw [ht', ← ht]
  exact hB.2
theorem so_invv (hx : p.tables.exec = Jvm.exec) (hb : c.code = ab_cc M) (hml : c.maxLocals = nL) (hown : s.vm.findClass own = some m.cls) (hts : ∀ w ∈ Ts, w.before args s = true) (hKn : ab_Kn D ad base cy sa s) (hbs : base ≤ s.heap.size) (hout : ∀ x ∈ c.exceptionTable.toList, False) (hlocks : meth.locks = false) (hRK : ab_K M ≤ R.cells ∧ 6 * ab_K M ≤ R.slots)
    (hcv : ∀ idx rc n ri kc τ, ab_cv M idx = some (rc, n, ri, kc, τ) → ab_vok l own Ts R idx rc n ri kc τ) : ab_c_invv M Q (ab_GE p l e R s m args below meth c D ad base cy nL ri0 Q (ab_K M)) := by
  intro pc L as rest S k idx rc n ri kc τ o hd hc hlen ha hrc h8 hkK hτ H locs ls hn ho hol hP hS hl
  obtain ⟨y, bytes, maxL, ret, ws, ws', rm, hso, hG, hcls, hw, hcel, hslo, hnm, hRm⟩ := hcv idx rc n ri kc τ hc
  obtain ⟨oa, ob⟩ := ab_oks_rev ho
  have hoo := ab_oks_hd ob
  have hM := hso D ad base cy sa (.inr o :: as) S _ hτ
  obtain ⟨q, hq⟩ := ab_pos (κ := o.1) (i := o.2) hoo
  have he : (ab_wl ad cy S)[q]? = some (ad o, .inr (ab_ci o.1, (List.range (ab_nf o.1)).map fun f => ab_val ad (ab_fv o.1 f o.2 S))) := by rw [ab_wl_at hq, ab_enc_obj ha]
  have hrv := va_recv hKn.1 hP (ab_cl_at o.1) he
  have hcl : (ab_cl o.1).1 = y.cls := by unfold ab_cl; rw [hrc]; exact hcls
  rw [show ((ab_cl o.1).1, (ab_cl o.1).2.1, (ab_cl o.1).2.2).1 = y.cls from hcl] at hrv
  have hst : (as.reverse ++ .inr o :: rest).map (ab_val ad) = (as.map (ab_val ad)).reverse ++ .ref (ad o) :: rest.map (ab_val ad) := by simp [ab_val]
  rw [hst]
  have hrun := vx_runV (H := H) (locs := locs) (cells := k) (slots := 6 * k) (below := below) (e := e) (meth := meth) (As := as.map (ab_val ad)) (rest := rest.map (ab_val ad)) (g := F0 m pc ls ((as.map (ab_val ad)).reverse ++ .ref (ad o) :: rest.map (ab_val ad))) ⟨hx, hb, hml, hown, hts⟩ hM (cwV n hts hG hw rfl rfl ⟨rfl, hnm⟩ hRm)
    ⟨ab_blind _ _ _ _ _ _ _, hrv, fun U hU hW => ⟨rfl, ab_oks_cons oa hoo, by rw [hU]; exact Nat.le_trans hbs hS.1, by rw [hU]; exact hP, ab_Kn.warm hW (by rw [hU]; exact hS.2.1) hKn⟩⟩
    rfl (by rw [List.length_map]; exact hlen) hl.1 rfl (lv_room (by rw [ab_cats]; exact h8)) hd (by rw [hcel, hslo]; omega)
  rw [hcel, hslo] at hrun
  match ri, hrun with
  | 0, hrun =>
    refine vx_callv (a := #[]) (S := ab_S) (SX := ab_S × Nat) hrun hS (fun q _ h => h) (fun q h => h) (fun q _ h => h) (fun E ce q9 u t H1 locs1 ht _ hpx hB _ _ hS1 hce hcv1 hcl1 => ab_kx hout hlocks ht hpx hB hS1 hce hcv1 hcl1 hkK) (fun u t H1 locs1 ht _ hp hB _ _ hS1 => ?_)
    have h1 := hp H1 locs1 ls hn (ab_oks_tl ob) hol (by rw [← ht]; exact hB) hS1 hl
    rw [Nat.mul_add] at h1
    exact h1
  | ri + 1, hrun =>
    refine vx_calli (a := #[]) (S := ab_S) (SX := ab_S × Nat) hrun hS (fun q _ h => h) (fun q h => h) (fun q _ h => h) (fun E ce q9 u t H1 locs1 ht _ hpx hB _ _ hS1 hce hcv1 hcl1 => ab_kx hout hlocks ht hpx hB hS1 hce hcv1 hcl1 hkK) (fun r u t H1 locs1 ht _ hp hB _ _ hS1 => ?_)
    have h1 := hp H1 locs1 ls hn (ab_oks_cons (ab_oks_tl ob) trivial) hol (by rw [← ht]; exact hB) hS1 hl
    rw [Nat.mul_add] at h1
    exact h1
theorem so_invs (hx : p.tables.exec = Jvm.exec) (hb : c.code = ab_cc M) (hml : c.maxLocals = nL) (hown : s.vm.findClass own = some m.cls) (hts : ∀ w ∈ Ts, w.before args s = true) (hKn : ab_Kn D ad base cy sa s) (hbs : base ≤ s.heap.size) (hout : ∀ x ∈ c.exceptionTable.toList, False) (hlocks : meth.locks = false) (hRK : ab_K M ≤ R.cells ∧ 6 * ab_K M ≤ R.slots)
    (hcs : ∀ idx rc n ri kc τ, ab_cs M idx = some (rc, n, ri, kc, τ) → ab_tok l own Ts R idx n ri kc τ) : ab_c_invs M Q (ab_GE p l e R s m args below meth c D ad base cy nL ri0 Q (ab_K M)) := by
  intro pc L as rest S k idx rc n ri kc τ hd hc hlen h8 hkK hτ H locs ls hn ho hol hP hS hl
  obtain ⟨y, bytes, maxL, ret, ws, ws', rm, hso, hG, hw, hcel, hslo, hnm, hRm⟩ := hcs idx rc n ri kc τ hc
  obtain ⟨oa, ob⟩ := ab_oks_rev ho
  have hM := hso D ad base cy sa as S _ hτ
  have hst : (as.reverse ++ rest).map (ab_val ad) = (as.map (ab_val ad)).reverse ++ rest.map (ab_val ad) := by simp
  rw [hst]
  have hrun := vx_runS (H := H) (locs := locs) (cells := k) (slots := 6 * k) (below := below) (e := e) (meth := meth) (As := as.map (ab_val ad)) (rest := rest.map (ab_val ad)) (g := F0 m pc ls ((as.map (ab_val ad)).reverse ++ rest.map (ab_val ad))) ⟨hx, hb, hml, hown, hts⟩ hM (va_cwS n hts hG hw rfl rfl hnm hRm)
    ⟨ab_blind _ _ _ _ _ _ _, fun U hU hW => ⟨rfl, oa, by rw [hU]; exact Nat.le_trans hbs hS.1, by rw [hU]; exact hP, ab_Kn.warm hW (by rw [hU]; exact hS.2.1) hKn⟩⟩
    rfl (by rw [List.length_map]; exact hlen) hl.1 rfl (lv_room (by rw [ab_cats]; exact h8)) hd (by rw [hcel, hslo]; omega)
  rw [hcel, hslo] at hrun
  match ri, hrun with
  | 0, hrun =>
    refine vx_callv (a := #[]) (S := ab_S) (SX := ab_S × Nat) hrun hS (fun q _ h => h) (fun q h => h) (fun q _ h => h) (fun E ce q9 u t H1 locs1 ht _ hpx hB _ _ hS1 hce hcv1 hcl1 => ab_kx hout hlocks ht hpx hB hS1 hce hcv1 hcl1 hkK) (fun u t H1 locs1 ht _ hp hB _ _ hS1 => ?_)
    have h1 := hp H1 locs1 ls hn ob hol (by rw [← ht]; exact hB) hS1 hl
    rw [Nat.mul_add] at h1
    exact h1
  | ri + 1, hrun =>
    refine vx_calli (a := #[]) (S := ab_S) (SX := ab_S × Nat) hrun hS (fun q _ h => h) (fun q h => h) (fun q _ h => h) (fun E ce q9 u t H1 locs1 ht _ hpx hB _ _ hS1 hce hcv1 hcl1 => ab_kx hout hlocks ht hpx hB hS1 hce hcv1 hcl1 hkK) (fun r u t H1 locs1 ht _ hp hB _ _ hS1 => ?_)
    have h1 := hp H1 locs1 ls hn (ab_oks_cons ob trivial) hol (by rw [← ht]; exact hB) hS1 hl
    rw [Nat.mul_add] at h1
    exact h1
theorem ab_ofx {y : MethodName} {ws : List Cond} {rm : Room} {Pc : Array Value → State → Prop} {Qc : Array Value → State → Outcome → State → Prop} {XC : String → State → State → Prop} {mc ms : Nat} {free : Addr → Prop} (hM : vx_Met l y ws rm Pc Qc XC mc ms free) (hX : ∀ E st t, ¬ XC E st t) : Met l y ws rm Pc Qc mc ms free := by
  intro p e ha hc hk s m args below hf happ hP hK
  obtain ⟨n, o, h1, h2, h3, hQ⟩ := hM p e ha hc hk s m args below hf happ hP hK
  refine ⟨n, o, h1, h2, h3, ?_⟩
  rcases hQ with h | ⟨q, ho, E, ce, L, hx, -⟩
  · exact h
  · exact (hX _ _ _ hx).elim
theorem so_invn (hx : p.tables.exec = Jvm.exec) (hb : c.code = ab_cc M) (hml : c.maxLocals = nL) (hown : s.vm.findClass own = some m.cls) (hts : ∀ w ∈ Ts, w.before args s = true) (hKn : ab_Kn D ad base cy sa s) (hbs : base ≤ s.heap.size) (hRK : ab_K M ≤ R.cells ∧ 6 * ab_K M ≤ R.slots)
    (hcn : ∀ idx rc n ri kc τ, ab_cn M idx = some (rc, n, ri, kc, τ) → ab_nok l own Ts R idx n ri kc τ) : ab_c_invn M Q (ab_GE p l e R s m args below meth c D ad base cy nL ri0 Q (ab_K M)) := by
  intro pc L as rest S k idx rc n ri kc τ hd hc hlen h8 hkK hτ H locs ls hn ho hol hP hS hl
  obtain ⟨hnst, bytes, maxL, ret, ws, ws', rm, hso, hG, hini, hsta, hw, hcel, hslo, hnm, hRm⟩ := hcn idx rc n ri kc τ hc
  obtain ⟨oa, ob⟩ := ab_oks_rev ho
  have hM := ab_ofx (hso D ad base cy sa as S _ hτ) (fun E st t h => by obtain ⟨u, hu, -⟩ := h; exact hu)
  have hst : (as.reverse ++ rest).map (ab_val ad) = (as.map (ab_val ad)).reverse ++ rest.map (ab_val ad) := by simp
  rw [hst]
  have hrun := va_runSN (H := H) (locs := locs) (cells := k) (slots := 6 * k) (below := below) (e := e) (meth := meth) (As := as.map (ab_val ad)) (rest := rest.map (ab_val ad)) (g := F0 m pc ls ((as.map (ab_val ad)).reverse ++ rest.map (ab_val ad))) ⟨hx, hb, hml, hown, hts⟩ hM ⟨va_cnB n hts hG hw rfl rfl (hKn.2.2.1 _ hnst) (hts _ hini) hnm hRm, hts _ hsta, trivial⟩
    ⟨ab_blind _ _ _ _ _ _ _, fun U hU hW => ⟨rfl, oa, by rw [hU]; exact Nat.le_trans hbs hS.1, by rw [hU]; exact hP, ab_Kn.warm hW (by rw [hU]; exact hS.2.1) hKn⟩⟩
    rfl (by rw [List.length_map]; exact hlen) hl.1 rfl (lv_room (by rw [ab_cats]; exact h8)) hd (by rw [hcel, hslo]; omega)
  rw [hcel, hslo] at hrun
  match ri, hrun with
  | 0, hrun =>
    refine va_callv (a := #[]) (S := ab_S) hrun hS (fun q _ h => h) (fun q h => h) (fun u t H1 locs1 ht _ hp hB _ _ hS1 => ?_)
    have h1 := hp H1 locs1 ls hn ob hol (by rw [← ht]; exact hB) hS1 hl
    rw [Nat.mul_add] at h1
    exact h1
  | ri + 1, hrun =>
    refine va_calli (a := #[]) (S := ab_S) hrun hS (fun q _ h => h) (fun q h => h) (fun r u t H1 locs1 ht _ hp hB _ _ hS1 => ?_)
    have h1 := hp H1 locs1 ls hn (ab_oks_cons ob trivial) hol (by rw [← ht]; exact hB) hS1 hl
    rw [Nat.mul_add] at h1
    exact h1
/-- what a method returns by its number -/
def ab_rt : Nat → Option FieldType
  | 0 => none
  | 1 => some .int
  | _ => some .boolean
theorem so_ireturn (hx : p.tables.exec = Jvm.exec) (hb : c.code = ab_cc M) (hr : meth.sig.returnType = ab_rt (ab_rk M)) (hri : ab_rk M ≠ 0 → ri0 = 1) (hlocks : meth.locks = false) : ab_c_ireturn M Q (ab_GE p l e R s m args below meth c D ad base cy nL ri0 Q (ab_K M)) := by
  intro pc L S k x hd hrk hk hq H locs ls hn ho hol hP hS hl
  refine vx_ret (W.widen (n := 6 * ab_K M) hk (by omega) ?_)
  have h1 : ri0 = 1 := hri (by omega)
  subst h1
  obtain ⟨ty, hty, hnr⟩ : ∃ ty, ab_rt (ab_rk M) = some ty ∧ narrow ty (.int x) = .int x := by
    rcases hrk with h | ⟨h, h0⟩
    · exact ⟨.int, by rw [h]; rfl, rfl⟩
    · refine ⟨.boolean, by rw [h]; rfl, ?_⟩
      rcases h0 with rfl | rfl <;> decide +kernel
  refine W.zret hx hb (hr.trans hty) hnr ?_ (fun q hq => hS.2.2 q hq) hd hlocks
  intro t ht hW
  refine ⟨⟨x, S, rfl, hq, ?_⟩, hS.F ht⟩
  show va_P D vwCl _ t.heap
  rw [ht]
  exact hP
theorem so_return_ (hx : p.tables.exec = Jvm.exec) (hb : c.code = ab_cc M) (hr : meth.sig.returnType = ab_rt (ab_rk M)) (hri : ab_rk M = 0 → ri0 = 0) (hlocks : meth.locks = false) : ab_c_return_ M Q (ab_GE p l e R s m args below meth c D ad base cy nL ri0 Q (ab_K M)) := by
  intro pc L S k hd hrk hk hq H locs ls hn ho hol hP hS hl
  refine vx_ret (W.widen (n := 6 * ab_K M) hk (by omega) ?_)
  have h1 : ri0 = 0 := hri hrk
  subst h1
  refine W.vret hx hb (by rw [hr, hrk]; rfl) ?_ (fun q hq => hS.2.2 q hq) hd hlocks
  intro t ht hW
  refine ⟨⟨S, rfl, hq, ?_⟩, hS.F ht⟩
  show va_P D vwCl _ t.heap
  rw [ht]
  exact hP
theorem so_throw (hx : p.tables.exec = Jvm.exec) (hb : c.code = ab_cc M) (hml : c.maxLocals = nL) (hlt : ab_th M = (fun _ => none) ∨ l.stackTraces = false) (hown : s.vm.findClass own = some m.cls) (hts : ∀ w ∈ Ts, w.before args s = true) (hKn : ab_Kn D ad base cy sa s) (hout : ∀ x ∈ c.exceptionTable.toList, False) (hlocks : meth.locks = false) (hRK : ab_K M ≤ R.cells ∧ 6 * ab_K M ≤ R.slots)
    (hth : ∀ pc E, ab_th M pc = some E → ab_thok own Ts R (ab_cc M) pc E) : ab_c_throw M Q (ab_GE p l e R s m args below meth c D ad base cy nL ri0 Q (ab_K M)) := by
  intro pc L st S k E hE h8 hk hq H locs ls hn ho hol hP hS hl
  have hlt : l.stackTraces = false := by
    rcases hlt with h | h
    · rw [h] at hE; cases hE
    · exact h
  obtain ⟨ik, is, ic, text, names, hO, hstr, hf1, hf2, w1, w2, w3, w4, hg, d0, d3, d4, d6, d9, r1, r2⟩ := hth pc E hE
  subst hO
  have hnw := hKn.nw (args := args)
  obtain ⟨-, -, -, hstrs, hU, hN, -⟩ := hKn
  refine vx_throwS (XC := ab_Xc D ad base cy Q) hx hb hlt hown hf1 hf2 (hts _ w1) (hts _ w2) (hstrs _ hstr) (vx_hat (fun w h => hts w (w3 w h)) w4 hnw) hg hU hN hS (hl.1.trans hml.symm) d0 d3 d4 d6 d9 (fun x hx => (hout x hx).elim) r1 (by rw [ab_cats]; omega) (by omega) (by omega) hlocks ?_ (fun z hz => hS.2.2 z hz) hk (by omega)
  intro t hal hsz hkeep
  refine ⟨(S, E), hq, ⟨rfl, ?_⟩, Nat.le_trans hS.1 hsz, fun q h1 h2 => (hkeep q (Nat.lt_of_lt_of_le h1 hS.1)).trans (hS.2.1 q h1 h2)⟩
  exact hP.kept (fun kk q hq => hkeep q.1 (hP kk q hq).lt)
end ABC
