/-! The rows together; a method's contract. -/
/-- what is to be looked up of a method once: its fields, its callees, its throws -/
def ab_Ok (l : Launch) (own : String) (Ts : List Cond) (R : Room) (ri0 : Nat) (M : ab_M) : Prop :=
  ((ab_rk M ≠ 0 → ri0 = 1) ∧ (ab_rk M = 0 → ri0 = 0)) ∧ (ab_th M = (fun _ => none) ∨ l.stackTraces = false) ∧ (∀ t ∈ ab_fl M, ab_flok own Ts t) ∧ (∀ t ∈ ab_pl M, ab_plok own Ts t) ∧ (∀ t ∈ ab_kn M, Jvm.Cond.constant own t.1 t.2 ∈ Ts) ∧
  (∀ idx rc n ri kc τ, ab_cv M idx = some (rc, n, ri, kc, τ) → ab_vok l own Ts R idx rc n ri kc τ) ∧ (∀ idx rc n ri kc τ, ab_cs M idx = some (rc, n, ri, kc, τ) → ab_tok l own Ts R idx n ri kc τ) ∧ (∀ idx rc n ri kc τ, ab_cn M idx = some (rc, n, ri, kc, τ) → ab_nok l own Ts R idx n ri kc τ) ∧
  (∀ idx ∈ ab_mn M, (Cond.methodLink own idx Lib.Math.min.name ∈ Ts ∧ Cond.static Lib.Math.min.name ∈ Ts ∧ Cond.initialized "java/lang/Math" ∈ Ts ∧ Cond.code Lib.Math.min.name Lib.Math.min.code 2 (some .int) ∈ Ts) ∧ 1 ≤ R.frames ∧ 21 ≤ R.locals) ∧
  (∀ idx ∈ ab_ac M, (Cond.methodLink own idx arraycopyName ∈ Ts ∧ Cond.native arraycopyName ∈ Ts ∧ Cond.static arraycopyName ∈ Ts ∧ Cond.initialized "java/lang/System" ∈ Ts) ∧ 1 ≤ R.frames ∧ 8 + (nativeFrameWords "java/lang/System" "arraycopy" 5 + 11) ≤ R.locals) ∧
  (∀ pc E, ab_th M pc = some E → ab_thok own Ts R (ab_cc M) pc E) ∧ ab_K M ≤ R.cells ∧ 6 * ab_K M ≤ R.slots
theorem ab_closed {p : Program} {l : Launch} {e : Env} {R : Room} {s : State} {m : MethodId} {args : Array Value} {below : List Frame} {meth : Method} {c : Code} {D : va_G} {ad : ab_Ob → Nat} {base : Nat} {cy : Nat → ClassId} {sa : Nat → Nat} {own : String} {Ts : List Cond} {M : ab_M} {Q : ab_Po} {nL ri0 : Nat}
    (hok : ab_Ok l own Ts R ri0 M) (hx : p.tables.exec = Jvm.exec) (hb : c.code = ab_cc M) (hml : c.maxLocals = nL) (hr : meth.sig.returnType = ab_rt (ab_rk M)) (hown : s.vm.findClass own = some m.cls) (hts : ∀ w ∈ Ts, w.before args s = true) (hKn : ab_Kn D ad base cy sa s) (hbs : base ≤ s.heap.size) (hout : ∀ x ∈ c.exceptionTable.toList, False) (hlocks : meth.locks = false) :
    ab_Cl M Q (ab_GE p l e R s m args below meth c D ad base cy nL ri0 Q (ab_K M)) := by
  obtain ⟨hri, hlt, hfl, hpl, hkn, hcv, hcs, hcn, hmn, hac, hth, hRK⟩ := hok
  exact ⟨so_iload_n hx hb, so_iload hx hb, so_aload_n hx hb, so_aload hx hb, so_istore_n hx hb, so_istore hx hb, so_astore_n hx hb, so_astore hx hb, so_iinc hx hb, so_iconst hx hb, so_bipush hx hb, so_sipush hx hb, so_ldc_w hx hb hown (fun t ht => hts _ (hkn t ht)), so_iadd hx hb, so_isub hx hb, so_imul hx hb, so_iand hx hb, so_ior hx hb, so_ishl hx hb, so_ishr hx hb, so_iushr hx hb, so_dup hx hb, so_pop hx hb, so_if_eq hx hb, so_icmp_eq hx hb, so_if_ne hx hb, so_icmp_ne hx hb, so_if_lt hx hb, so_icmp_lt hx hb, so_if_ge hx hb, so_icmp_ge hx hb, so_if_gt hx hb, so_icmp_gt hx hb, so_if_le hx hb, so_icmp_le hx hb, so_goto hx hb, so_swO hx hb, so_swI hx hb, so_ireturn hx hb hr hri.1 hlocks, so_return_ hx hb hr hri.2 hlocks, so_getfield hx hb hown hts hKn.1 hKn.2.1.2 hfl, so_putfield hx hb hown hts hKn.1 hKn.2.1.1 hpl, so_iaload hx hb hKn.1, so_baload hx hb hKn.1, so_iastore hx hb hKn.1 hKn.2.1.1, so_bastore hx hb hKn.1 hKn.2.1.1, so_aaload2 hx hb hKn.1 hKn.2.1.2, so_aaload3 hx hb hKn.1 hKn.2.1.2, so_alen hx hb hKn.1, so_invv hx hb hml hown hts hKn hbs hout hlocks hRK hcv, so_invs hx hb hml hown hts hKn hbs hout hlocks hRK hcs, so_invn hx hb hml hown hts hKn hbs hRK hcn, so_min hx hb hml hown hts hmn hRK, so_acopy hx hb hml hown hts hKn.1 hKn.2.1.1 hac, so_throw hx hb hml hlt hown hts hKn hout hlocks hRK hth, so_forget⟩
theorem ab_sound {l : Launch} {y : MethodName} {ws ws' : List Cond} {rm : Room} {maxL ri0 : Nat} {M : ab_M} (hy : plainName y.cls = true) (hw : ws = Cond.code y (ab_cc M) maxL (ab_rt (ab_rk M)) :: ws') (hrc : rm.cells = ab_K M) (hrs : rm.slots = 6 * ab_K M)
    (hok : ab_Ok l y.cls ws rm ri0 M) : ab_Sound l y ws rm ri0 (ab_Sem M maxL) := by
  intro D ad base cy sa vs S Q hs
  obtain ⟨hlen, hsem⟩ := hs
  rw [hrc, hrs]
  refine vx_ofW hy hw ?_
  intro p e s m args below meth c s₁ B hml hout hv
  obtain ⟨rfl, hoks, hbs, hP, hKn⟩ := hv
  have hts := atoms_spec (ws := ws) B.pre
  have hown : s.vm.findClass y.cls = some m.cls := findClass_of_methodNamed B.named
  have hcl : ab_Cl M Q (ab_GE p l e (headSpec ws rm).room s m _ below meth c D ad base cy maxL ri0 Q (ab_K M)) := ab_closed hok B.exec B.bytes hml B.returns hown hts hKn hbs hout B.notSynchronized
  have h := hsem _ hcl
  have hl := lv_entry (vs.map (ab_val ad)) (n := maxL) (by rw [ab_sl]; exact hlen)
  rw [lg_entry_eq]
  exact h s.heap [] _ (by simp; omega) (fun _ h => by cases h) (ab_okl_entry hoks _) hP va_S.rf (ab_entry hl _)
