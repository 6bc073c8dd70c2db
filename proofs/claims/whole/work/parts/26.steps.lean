/-! Each row of the abstract machine, over the kit's rows. -/
section ABS
variable {p : Program} {l : Launch} {e : Env} {R : Room} {s : State} {m : MethodId} {args : Array Value} {below : List Frame} {meth : Method} {c : Code}
variable {D : va_G} {ad : ab_Ob → Nat} {base : Nat} {cy : Nat → ClassId} {sa : Nat → Nat} {own : String} {Ts : List Cond} {M : ab_M} {Q : ab_Po} {nL : Nat} {Qf : State → Prop}
/-- the abstract state stands in the machine, and from there the machine comes to Qf -/
def ab_G (p : Program) (l : Launch) (e : Env) (R : Room) (s : State) (m : MethodId) (args : Array Value) (below : List Frame) (meth : Method) (c : Code) (D : va_G) (ad : ab_Ob → Nat) (base : Nat) (cy : Nat → ClassId) (nL : Nat) (Qf : State → Prop) : ab_Gt := fun pc L st S k =>
  ∀ (H : Heap) (locs : List Loc) (ls : Array Slot), L.length = nL → ab_oks ad st → ab_okl ad L → va_P D vwCl (ab_wl ad cy S) H → va_S (ab_A base) s.heap H locs → lv_has ls nL (ab_lv ad L) → W p l e R s m args below meth c H locs k (6 * k) Qf (F0 m pc ls (st.map (ab_val ad)))
theorem so_iload_n (hx : p.tables.exec = Jvm.exec) (hb : c.code = ab_cc M) : ab_c_iload_n M Q (ab_G p l e R s m args below meth c D ad base cy nL Qf) := by
  intro pc L st S k n x hd hL hk H locs ls hn ho hol hP hS hl
  exact lv_iload_n hx hb hd rfl (ab_lv_at hl hL) (hk H locs ls hn (ab_oks_cons ho trivial) hol hP hS hl)
theorem so_iload (hx : p.tables.exec = Jvm.exec) (hb : c.code = ab_cc M) : ab_c_iload M Q (ab_G p l e R s m args below meth c D ad base cy nL Qf) := by
  intro pc L st S k n x hd hL hk H locs ls hn ho hol hP hS hl
  exact lv_iload hx hb hd (ab_lv_at hl hL) (hk H locs ls hn (ab_oks_cons ho trivial) hol hP hS hl)
theorem so_aload_n (hx : p.tables.exec = Jvm.exec) (hb : c.code = ab_cc M) : ab_c_aload_n M Q (ab_G p l e R s m args below meth c D ad base cy nL Qf) := by
  intro pc L st S k n o hd hL hk H locs ls hn ho hol hP hS hl
  exact lv_aload_n hx hb hd rfl (ab_lv_at hl hL) (hk H locs ls hn (ab_oks_cons ho (ab_okl_at hol hL)) hol hP hS hl)
theorem so_aload (hx : p.tables.exec = Jvm.exec) (hb : c.code = ab_cc M) : ab_c_aload M Q (ab_G p l e R s m args below meth c D ad base cy nL Qf) := by
  intro pc L st S k n o hd hL hk H locs ls hn ho hol hP hS hl
  exact lv_aload hx hb hd (ab_lv_at hl hL) (hk H locs ls hn (ab_oks_cons ho (ab_okl_at hol hL)) hol hP hS hl)
theorem so_istore_n (hx : p.tables.exec = Jvm.exec) (hb : c.code = ab_cc M) : ab_c_istore_n M Q (ab_G p l e R s m args below meth c D ad base cy nL Qf) := by
  intro pc L st S k n x hd hlt hk H locs ls hn ho hol hP hS hl
  exact lv_istore_n hx hb hd rfl hl (by omega) rfl (fun ls' hl' => hk H locs ls' (by rw [List.length_set]; exact hn) (ab_oks_tl ho) (ab_okl_set hol (ab_oks_hd ho)) hP hS (ab_lv_set (v := .inl x) hl'))
theorem so_istore (hx : p.tables.exec = Jvm.exec) (hb : c.code = ab_cc M) : ab_c_istore M Q (ab_G p l e R s m args below meth c D ad base cy nL Qf) := by
  intro pc L st S k n x hd hlt hk H locs ls hn ho hol hP hS hl
  exact lv_istore hx hb hd hl (by omega) rfl (fun ls' hl' => hk H locs ls' (by rw [List.length_set]; exact hn) (ab_oks_tl ho) (ab_okl_set hol (ab_oks_hd ho)) hP hS (ab_lv_set (v := .inl x) hl'))
theorem so_astore_n (hx : p.tables.exec = Jvm.exec) (hb : c.code = ab_cc M) : ab_c_astore_n M Q (ab_G p l e R s m args below meth c D ad base cy nL Qf) := by
  intro pc L st S k n o hd hlt hk H locs ls hn ho hol hP hS hl
  exact lv_astore_n hx hb hd rfl hl (by omega) rfl (fun ls' hl' => hk H locs ls' (by rw [List.length_set]; exact hn) (ab_oks_tl ho) (ab_okl_set hol (ab_oks_hd ho)) hP hS (ab_lv_set (v := .inr o) hl'))
theorem so_astore (hx : p.tables.exec = Jvm.exec) (hb : c.code = ab_cc M) : ab_c_astore M Q (ab_G p l e R s m args below meth c D ad base cy nL Qf) := by
  intro pc L st S k n o hd hlt hk H locs ls hn ho hol hP hS hl
  exact lv_astore hx hb hd hl (by omega) rfl (fun ls' hl' => hk H locs ls' (by rw [List.length_set]; exact hn) (ab_oks_tl ho) (ab_okl_set hol (ab_oks_hd ho)) hP hS (ab_lv_set (v := .inr o) hl'))
theorem so_iinc (hx : p.tables.exec = Jvm.exec) (hb : c.code = ab_cc M) : ab_c_iinc M Q (ab_G p l e R s m args below meth c D ad base cy nL Qf) := by
  intro pc L st S k i n x v hd hL hv hk H locs ls hn ho hol hP hS hl
  have hmem : (i, ab_val ad (.inl x)) ∈ ab_lv ad L := ab_lv_mem.mpr ⟨_, hL, rfl⟩
  obtain ⟨kk, hkk⟩ := List.getElem?_of_mem hmem
  have hlt : i < L.length := (List.getElem?_eq_some_iff.mp hL).1
  exact lv_iinc hx hb hd hl hkk hv (by omega) rfl (fun ls' hl' => hk H locs ls' (by rw [List.length_set]; exact hn) ho (ab_okl_set hol trivial) hP hS (ab_lv_set (v := .inl v) hl'))
theorem so_iconst (hx : p.tables.exec = Jvm.exec) (hb : c.code = ab_cc M) : ab_c_iconst M Q (ab_G p l e R s m args below meth c D ad base cy nL Qf) := by
  intro pc L st S k n v hd hv hk H locs ls hn ho hol hP hS hl
  exact lv_iconst hx hb hd hv (hk H locs ls hn (ab_oks_cons ho trivial) hol hP hS hl)
theorem so_bipush (hx : p.tables.exec = Jvm.exec) (hb : c.code = ab_cc M) : ab_c_bipush M Q (ab_G p l e R s m args below meth c D ad base cy nL Qf) := by
  intro pc L st S k n v hd hv hk H locs ls hn ho hol hP hS hl
  exact lv_bipush hx hb hd hv (hk H locs ls hn (ab_oks_cons ho trivial) hol hP hS hl)
theorem so_sipush (hx : p.tables.exec = Jvm.exec) (hb : c.code = ab_cc M) : ab_c_sipush M Q (ab_G p l e R s m args below meth c D ad base cy nL Qf) := by
  intro pc L st S k n v hd hv hk H locs ls hn ho hol hP hS hl
  exact lv_sipush hx hb hd hv (hk H locs ls hn (ab_oks_cons ho trivial) hol hP hS hl)
theorem so_ldc_w (hx : p.tables.exec = Jvm.exec) (hb : c.code = ab_cc M) (hown : s.vm.findClass own = some m.cls) (hkn : ∀ t ∈ ab_kn M, (Jvm.Cond.constant own t.1 t.2).before args s = true) : ab_c_ldc_w M Q (ab_G p l e R s m args below meth c D ad base cy nL Qf) := by
  intro pc L st S k i v hd hv hk H locs ls hn ho hol hP hS hl
  exact lv_ldcw hx hb hown (hkn _ hv) hd (hk H locs ls hn (ab_oks_cons ho trivial) hol hP hS hl)
theorem so_iadd (hx : p.tables.exec = Jvm.exec) (hb : c.code = ab_cc M) : ab_c_iadd M Q (ab_G p l e R s m args below meth c D ad base cy nL Qf) := by
  intro pc L st S k x y hd hk H locs ls hn ho hol hP hS hl
  exact lv_iadd hx hb hd (hk H locs ls hn (ab_oks_cons (ab_oks_tl (ab_oks_tl ho)) trivial) hol hP hS hl)
theorem so_isub (hx : p.tables.exec = Jvm.exec) (hb : c.code = ab_cc M) : ab_c_isub M Q (ab_G p l e R s m args below meth c D ad base cy nL Qf) := by
  intro pc L st S k x y hd hk H locs ls hn ho hol hP hS hl
  exact lv_isub hx hb hd (hk H locs ls hn (ab_oks_cons (ab_oks_tl (ab_oks_tl ho)) trivial) hol hP hS hl)
theorem so_imul (hx : p.tables.exec = Jvm.exec) (hb : c.code = ab_cc M) : ab_c_imul M Q (ab_G p l e R s m args below meth c D ad base cy nL Qf) := by
  intro pc L st S k x y hd hk H locs ls hn ho hol hP hS hl
  exact lv_imul hx hb hd (hk H locs ls hn (ab_oks_cons (ab_oks_tl (ab_oks_tl ho)) trivial) hol hP hS hl)
theorem so_iand (hx : p.tables.exec = Jvm.exec) (hb : c.code = ab_cc M) : ab_c_iand M Q (ab_G p l e R s m args below meth c D ad base cy nL Qf) := by
  intro pc L st S k x y hd hk H locs ls hn ho hol hP hS hl
  exact lv_iand hx hb hd (hk H locs ls hn (ab_oks_cons (ab_oks_tl (ab_oks_tl ho)) trivial) hol hP hS hl)
theorem so_ior (hx : p.tables.exec = Jvm.exec) (hb : c.code = ab_cc M) : ab_c_ior M Q (ab_G p l e R s m args below meth c D ad base cy nL Qf) := by
  intro pc L st S k x y hd hk H locs ls hn ho hol hP hS hl
  exact lv_ior hx hb hd (hk H locs ls hn (ab_oks_cons (ab_oks_tl (ab_oks_tl ho)) trivial) hol hP hS hl)
theorem so_ishl (hx : p.tables.exec = Jvm.exec) (hb : c.code = ab_cc M) : ab_c_ishl M Q (ab_G p l e R s m args below meth c D ad base cy nL Qf) := by
  intro pc L st S k x y hd hk H locs ls hn ho hol hP hS hl
  exact lv_ishl hx hb hd (hk H locs ls hn (ab_oks_cons (ab_oks_tl (ab_oks_tl ho)) trivial) hol hP hS hl)
theorem so_ishr (hx : p.tables.exec = Jvm.exec) (hb : c.code = ab_cc M) : ab_c_ishr M Q (ab_G p l e R s m args below meth c D ad base cy nL Qf) := by
  intro pc L st S k x y hd hk H locs ls hn ho hol hP hS hl
  exact lv_ishr hx hb hd (hk H locs ls hn (ab_oks_cons (ab_oks_tl (ab_oks_tl ho)) trivial) hol hP hS hl)
theorem so_iushr (hx : p.tables.exec = Jvm.exec) (hb : c.code = ab_cc M) : ab_c_iushr M Q (ab_G p l e R s m args below meth c D ad base cy nL Qf) := by
  intro pc L st S k x y hd hk H locs ls hn ho hol hP hS hl
  exact lv_iushr hx hb hd rfl (hk H locs ls hn (ab_oks_cons (ab_oks_tl (ab_oks_tl ho)) trivial) hol hP hS hl)
theorem so_dup (hx : p.tables.exec = Jvm.exec) (hb : c.code = ab_cc M) : ab_c_dup M Q (ab_G p l e R s m args below meth c D ad base cy nL Qf) := by
  intro pc L st S k v hd hk H locs ls hn ho hol hP hS hl
  exact lv_dup hx hb hd (ab_cat ad v) (hk H locs ls hn (ab_oks_cons ho (ab_oks_hd ho)) hol hP hS hl)
theorem so_pop (hx : p.tables.exec = Jvm.exec) (hb : c.code = ab_cc M) : ab_c_pop M Q (ab_G p l e R s m args below meth c D ad base cy nL Qf) := by
  intro pc L st S k v hd hk H locs ls hn ho hol hP hS hl
  exact lv_pop hx hb hd (ab_cat ad v) (hk H locs ls hn (ab_oks_tl ho) hol hP hS hl)
theorem so_if_eq (hx : p.tables.exec = Jvm.exec) (hb : c.code = ab_cc M) : ab_c_if_eq M Q (ab_G p l e R s m args below meth c D ad base cy nL Qf) := by
  intro pc L st S k off tgt x hd ht h1 h2 H locs ls hn ho hol hP hS hl
  exact lv_if_eq hx hb hd ht (fun q => h1 q H locs ls hn (ab_oks_tl ho) hol hP hS hl) (fun q => h2 q H locs ls hn (ab_oks_tl ho) hol hP hS hl)
theorem so_icmp_eq (hx : p.tables.exec = Jvm.exec) (hb : c.code = ab_cc M) : ab_c_icmp_eq M Q (ab_G p l e R s m args below meth c D ad base cy nL Qf) := by
  intro pc L st S k off tgt x y hd ht h1 h2 H locs ls hn ho hol hP hS hl
  exact lv_icmp_eq hx hb hd ht (fun q => h1 q H locs ls hn (ab_oks_tl (ab_oks_tl ho)) hol hP hS hl) (fun q => h2 q H locs ls hn (ab_oks_tl (ab_oks_tl ho)) hol hP hS hl)
theorem so_if_ne (hx : p.tables.exec = Jvm.exec) (hb : c.code = ab_cc M) : ab_c_if_ne M Q (ab_G p l e R s m args below meth c D ad base cy nL Qf) := by
  intro pc L st S k off tgt x hd ht h1 h2 H locs ls hn ho hol hP hS hl
  exact lv_if_ne hx hb hd ht (fun q => h1 q H locs ls hn (ab_oks_tl ho) hol hP hS hl) (fun q => h2 q H locs ls hn (ab_oks_tl ho) hol hP hS hl)
theorem so_icmp_ne (hx : p.tables.exec = Jvm.exec) (hb : c.code = ab_cc M) : ab_c_icmp_ne M Q (ab_G p l e R s m args below meth c D ad base cy nL Qf) := by
  intro pc L st S k off tgt x y hd ht h1 h2 H locs ls hn ho hol hP hS hl
  exact lv_icmp_ne hx hb hd ht (fun q => h1 q H locs ls hn (ab_oks_tl (ab_oks_tl ho)) hol hP hS hl) (fun q => h2 q H locs ls hn (ab_oks_tl (ab_oks_tl ho)) hol hP hS hl)
theorem so_if_lt (hx : p.tables.exec = Jvm.exec) (hb : c.code = ab_cc M) : ab_c_if_lt M Q (ab_G p l e R s m args below meth c D ad base cy nL Qf) := by
  intro pc L st S k off tgt x hd ht h1 h2 H locs ls hn ho hol hP hS hl
  exact lv_if_lt hx hb hd ht (fun q => h1 q H locs ls hn (ab_oks_tl ho) hol hP hS hl) (fun q => h2 q H locs ls hn (ab_oks_tl ho) hol hP hS hl)
theorem so_icmp_lt (hx : p.tables.exec = Jvm.exec) (hb : c.code = ab_cc M) : ab_c_icmp_lt M Q (ab_G p l e R s m args below meth c D ad base cy nL Qf) := by
  intro pc L st S k off tgt x y hd ht h1 h2 H locs ls hn ho hol hP hS hl
  exact lv_icmp_lt hx hb hd ht (fun q => h1 q H locs ls hn (ab_oks_tl (ab_oks_tl ho)) hol hP hS hl) (fun q => h2 q H locs ls hn (ab_oks_tl (ab_oks_tl ho)) hol hP hS hl)
theorem so_if_ge (hx : p.tables.exec = Jvm.exec) (hb : c.code = ab_cc M) : ab_c_if_ge M Q (ab_G p l e R s m args below meth c D ad base cy nL Qf) := by
  intro pc L st S k off tgt x hd ht h1 h2 H locs ls hn ho hol hP hS hl
  exact lv_if_ge hx hb hd ht (fun q => h1 q H locs ls hn (ab_oks_tl ho) hol hP hS hl) (fun q => h2 q H locs ls hn (ab_oks_tl ho) hol hP hS hl)
theorem so_icmp_ge (hx : p.tables.exec = Jvm.exec) (hb : c.code = ab_cc M) : ab_c_icmp_ge M Q (ab_G p l e R s m args below meth c D ad base cy nL Qf) := by
  intro pc L st S k off tgt x y hd ht h1 h2 H locs ls hn ho hol hP hS hl
  exact lv_icmp_ge hx hb hd ht (fun q => h1 q H locs ls hn (ab_oks_tl (ab_oks_tl ho)) hol hP hS hl) (fun q => h2 q H locs ls hn (ab_oks_tl (ab_oks_tl ho)) hol hP hS hl)
theorem so_if_gt (hx : p.tables.exec = Jvm.exec) (hb : c.code = ab_cc M) : ab_c_if_gt M Q (ab_G p l e R s m args below meth c D ad base cy nL Qf) := by
  intro pc L st S k off tgt x hd ht h1 h2 H locs ls hn ho hol hP hS hl
  exact lv_if_gt hx hb hd ht (fun q => h1 q H locs ls hn (ab_oks_tl ho) hol hP hS hl) (fun q => h2 q H locs ls hn (ab_oks_tl ho) hol hP hS hl)
theorem so_icmp_gt (hx : p.tables.exec = Jvm.exec) (hb : c.code = ab_cc M) : ab_c_icmp_gt M Q (ab_G p l e R s m args below meth c D ad base cy nL Qf) := by
  intro pc L st S k off tgt x y hd ht h1 h2 H locs ls hn ho hol hP hS hl
  exact lv_icmp_gt hx hb hd ht (fun q => h1 q H locs ls hn (ab_oks_tl (ab_oks_tl ho)) hol hP hS hl) (fun q => h2 q H locs ls hn (ab_oks_tl (ab_oks_tl ho)) hol hP hS hl)
theorem so_if_le (hx : p.tables.exec = Jvm.exec) (hb : c.code = ab_cc M) : ab_c_if_le M Q (ab_G p l e R s m args below meth c D ad base cy nL Qf) := by
  intro pc L st S k off tgt x hd ht h1 h2 H locs ls hn ho hol hP hS hl
  exact lv_if_le hx hb hd ht (fun q => h1 q H locs ls hn (ab_oks_tl ho) hol hP hS hl) (fun q => h2 q H locs ls hn (ab_oks_tl ho) hol hP hS hl)
theorem so_icmp_le (hx : p.tables.exec = Jvm.exec) (hb : c.code = ab_cc M) : ab_c_icmp_le M Q (ab_G p l e R s m args below meth c D ad base cy nL Qf) := by
  intro pc L st S k off tgt x y hd ht h1 h2 H locs ls hn ho hol hP hS hl
  exact lv_icmp_le hx hb hd ht (fun q => h1 q H locs ls hn (ab_oks_tl (ab_oks_tl ho)) hol hP hS hl) (fun q => h2 q H locs ls hn (ab_oks_tl (ab_oks_tl ho)) hol hP hS hl)
theorem so_goto (hx : p.tables.exec = Jvm.exec) (hb : c.code = ab_cc M) : ab_c_goto M Q (ab_G p l e R s m args below meth c D ad base cy nL Qf) := by
  intro pc L st S k off tgt hd ht hk H locs ls hn ho hol hP hS hl
  exact lv_goto hx hb hd ht (hk H locs ls hn ho hol hP hS hl)
theorem so_swO (hx : p.tables.exec = Jvm.exec) (hb : c.code = ab_cc M) : ab_c_swO M Q (ab_G p l e R s m args below meth c D ad base cy nL Qf) := by
  intro pc L st S k dflt lo hi offs len x tgt hd h ht hk H locs ls hn ho hol hP hS hl
  exact lv_tableOut hx hb hd h ht (hk H locs ls hn (ab_oks_tl ho) hol hP hS hl)
theorem so_swI (hx : p.tables.exec = Jvm.exec) (hb : c.code = ab_cc M) : ab_c_swI M Q (ab_G p l e R s m args below meth c D ad base cy nL Qf) := by
  intro pc L st S k dflt lo hi offs len x off tgt hd h1 h2 ho1 ht hk H locs ls hn ho hol hP hS hl
  exact lv_tableIn hx hb hd h1 h2 ho1 ht (hk H locs ls hn (ab_oks_tl ho) hol hP hS hl)
/-- a field of the pool: its index, its object's kind, its number there -/
def ab_flok (own : String) (Ts : List Cond) (t : Nat × Nat × Nat) : Prop := ab_ar t.2.1 = none ∧ t.2.2 < ab_nf t.2.1 ∧ (ab_cl t.2.1).2.2 = ab_nf t.2.1 ∧
  Cond.fieldLink own t.1 ((ab_cl t.2.1).2.1 t.2.2).1 ((ab_cl t.2.1).2.1 t.2.2).2.1 ((ab_cl t.2.1).2.1 t.2.2).2.2.1 ∈ Ts ∧ ∀ w ∈ u_ws (ab_cl t.2.1).1 (ab_cl t.2.1).2.1 (ab_cl t.2.1).2.2, w ∈ Ts
def ab_plok (own : String) (Ts : List Cond) (t : Nat × Nat × Nat) : Prop := ab_flok own Ts t ∧ (∀ i, i < 14 → ab_fr t.2.1 t.2.2 i = none) ∧ ((ab_cl t.2.1).2.1 t.2.2).2.2.2 = false ∧ ((ab_cl t.2.1).2.1 t.2.2).2.2.1 = "I"
theorem ab_nf_at {ad : ab_Ob → Nat} {κ i f : Nat} {S : ab_S} (hf : f < ab_nf κ) : ((List.range (ab_nf κ)).map fun f => ab_val ad (ab_fv κ f i S))[f]? = some (ab_val ad (ab_fv κ f i S)) := by
  rw [List.getElem?_map, List.getElem?_range hf]
  rfl
theorem so_getfield (hx : p.tables.exec = Jvm.exec) (hb : c.code = ab_cc M) (hown : s.vm.findClass own = some m.cls) (hts : ∀ w ∈ Ts, w.before args s = true) (hK : va_K D vwCl (ab_tys cy) s) (hC : ab_cld ad) (hfl : ∀ t ∈ ab_fl M, ab_flok own Ts t) : ab_c_getfield M Q (ab_G p l e R s m args below meth c D ad base cy nL Qf) := by
  intro pc L st S k idx κ f i hd hm hk H locs ls hn ho hol hP hS hl
  obtain ⟨ha, hf, hN, hlk, hin⟩ := hfl _ hm
  have hi : i < ab_nb κ ∧ ad (κ, i) ≠ 0 := ab_oks_hd ho
  obtain ⟨n, hn0⟩ := ab_pos hi
  have he : (ab_wl ad cy S)[n]? = some (ad (κ, i), .inr (ab_ci κ, (List.range (ab_nf κ)).map fun f => ab_val ad (ab_fv κ f i S))) := by rw [ab_wl_at hn0, ab_enc_obj ha]
  exact va_get hx hb hts hin hown hK hP n he (ab_cl_at κ) f (by rw [hN]; exact hf) (hts _ hlk) (fun x h => h) (ab_nf_at hf) hd (hk H locs ls hn (ab_oks_cons (ab_oks_tl ho) (ab_fv_ok hC ha hf hi)) hol hP hS hl)
theorem ab_put_enc {ad : ab_Ob → Nat} {cy : Nat → ClassId} {S : ab_S} {κ i f : Nat} {x : Int32} (ha : ab_ar κ = none) (hf : f < ab_nf κ) (hi : i < 14) (hr : ∀ i, i < 14 → ab_fr κ f i = none) : ab_enc ad cy (ab_sr S κ i (upd (S κ i) f x)) (κ, i) = .inr (ab_ci κ, ((List.range (ab_nf κ)).map fun f => ab_val ad (ab_fv κ f i S)).set f (.int x)) := by
  rw [ab_enc_obj ha]
  congr 2
  apply List.ext_getElem?
  intro j
  by_cases hj : j = f
  · subst hj
    rw [List.getElem?_set_self', List.getElem?_map, List.getElem?_map, List.getElem?_range hf]
    show some (ab_val ad (ab_fv κ j i _)) = some (Value.int x)
    unfold ab_fv
    rw [hr i hi, ab_sr_self]
    simp [upd, ab_val]
  · rw [List.getElem?_set_ne (fun e => hj e.symm), List.getElem?_map, List.getElem?_map]
    by_cases hjn : j < ab_nf κ
    · rw [List.getElem?_range hjn]
      show some _ = some _
      unfold ab_fv
      rw [ab_sr_self]
      simp [upd, hj]
    · rw [List.getElem?_eq_none (by simp; omega)]
      rfl
theorem so_putfield (hx : p.tables.exec = Jvm.exec) (hb : c.code = ab_cc M) (hown : s.vm.findClass own = some m.cls) (hts : ∀ w ∈ Ts, w.before args s = true) (hK : va_K D vwCl (ab_tys cy) s) (hD : va_D (ab_A base) (ab_wl ad cy (fun _ _ _ => 0))) (hpl : ∀ t ∈ ab_pl M, ab_plok own Ts t) : ab_c_putfield M Q (ab_G p l e R s m args below meth c D ad base cy nL Qf) := by
  intro pc L st S k idx κ f i x hd hm hk H locs ls hn ho hol hP hS hl
  obtain ⟨⟨ha, hf, hN, hlk, hin⟩, hr, hfin, hI⟩ := hpl _ hm
  have hi : i < ab_nb κ ∧ ad (κ, i) ≠ 0 := ab_oks_hd (ab_oks_tl ho)
  have hi14 : i < 14 := Nat.lt_of_lt_of_le hi.1 (ab_nb_le κ ha)
  obtain ⟨n, hn0⟩ := ab_pos hi
  obtain ⟨ty0, hty, hnm⟩ := ab_cl_ok κ
  have he : (ab_wl ad cy S)[n]? = some (ad (κ, i), .inr (ab_ci κ, (List.range (ab_nf κ)).map fun f => ab_val ad (ab_fv κ f i S))) := by rw [ab_wl_at hn0, ab_enc_obj ha]
  refine va_put (ty := .int) (v := .int x) hx hb hts hin ty0 hty hnm hown hK hP (ab_D hD) hS n he (ab_cl_at κ) f (by rw [hN]; exact hf) (hts _ hlk) (fun x h => h) hfin (by rw [hI]; decide +kernel) rfl rfl (by simp; exact hf) hd (fun H1 locs1 hP1 hD1 hS1 => ?_)
  rw [ab_set hn0 (ab_put_enc ha hf hi14 hr)] at hP1
  exact hk H1 locs1 ls hn (ab_oks_tl (ab_oks_tl ho)) hol hP1 hS1 hl
theorem so_iaload (hx : p.tables.exec = Jvm.exec) (hb : c.code = ab_cc M) (hK : va_K D vwCl (ab_tys cy) s) : ab_c_iaload M Q (ab_G p l e R s m args below meth c D ad base cy nL Qf) := by
  intro pc L st S k κ i n j hd ha hin hk H locs ls hn ho hol hP hS hl
  have hi : i < ab_nb κ ∧ ad (κ, i) ≠ 0 := ab_oks_hd (ab_oks_tl ho)
  obtain ⟨q, hq⟩ := ab_pos hi
  exact va_iald hx hb hK hP q 0 (by rw [ab_wl_at hq, ab_enc_int ha]) rfl hin hd (hk H locs ls hn (ab_oks_cons (ab_oks_tl (ab_oks_tl ho)) trivial) hol hP hS hl)
theorem so_baload (hx : p.tables.exec = Jvm.exec) (hb : c.code = ab_cc M) (hK : va_K D vwCl (ab_tys cy) s) : ab_c_baload M Q (ab_G p l e R s m args below meth c D ad base cy nL Qf) := by
  intro pc L st S k κ i n j hd ha hin hk H locs ls hn ho hol hP hS hl
  have hi : i < ab_nb κ ∧ ad (κ, i) ≠ 0 := ab_oks_hd (ab_oks_tl ho)
  obtain ⟨q, hq⟩ := ab_pos hi
  exact va_zald hx hb hK hP q 1 (by rw [ab_wl_at hq, ab_enc_bool ha]) rfl hin hd (hk H locs ls hn (ab_oks_cons (ab_oks_tl (ab_oks_tl ho)) trivial) hol hP hS hl)
theorem so_iastore (hx : p.tables.exec = Jvm.exec) (hb : c.code = ab_cc M) (hK : va_K D vwCl (ab_tys cy) s) (hD : va_D (ab_A base) (ab_wl ad cy (fun _ _ _ => 0))) : ab_c_iastore M Q (ab_G p l e R s m args below meth c D ad base cy nL Qf) := by
  intro pc L st S k κ i n j x hd ha hin hk H locs ls hn ho hol hP hS hl
  have hi : i < ab_nb κ ∧ ad (κ, i) ≠ 0 := ab_oks_hd (ab_oks_tl (ab_oks_tl ho))
  obtain ⟨q, hq⟩ := ab_pos hi
  refine va_iast hx hb hK hP (ab_D hD) hS q 0 (by rw [ab_wl_at hq, ab_enc_int ha]) rfl hin hd (fun H1 locs1 hP1 hD1 hS1 => ?_)
  rw [ab_set (f := upd (S κ i) j.toNatClampNeg x) hq (by rw [ab_enc_int ha, ab_sr_self])] at hP1
  exact hk H1 locs1 ls hn (ab_oks_tl (ab_oks_tl (ab_oks_tl ho))) hol hP1 hS1 hl
theorem so_bastore (hx : p.tables.exec = Jvm.exec) (hb : c.code = ab_cc M) (hK : va_K D vwCl (ab_tys cy) s) (hD : va_D (ab_A base) (ab_wl ad cy (fun _ _ _ => 0))) : ab_c_bastore M Q (ab_G p l e R s m args below meth c D ad base cy nL Qf) := by
  intro pc L st S k κ i n j x hd ha hin hk H locs ls hn ho hol hP hS hl
  have hi : i < ab_nb κ ∧ ad (κ, i) ≠ 0 := ab_oks_hd (ab_oks_tl (ab_oks_tl ho))
  obtain ⟨q, hq⟩ := ab_pos hi
  refine va_zast hx hb hK hP (ab_D hD) hS q 1 (by rw [ab_wl_at hq, ab_enc_bool ha]) rfl hin hd (fun H1 locs1 hP1 hD1 hS1 => ?_)
  rw [ab_set (f := upd (S κ i) j.toNatClampNeg (vp_nar .boolean x)) hq (by rw [ab_enc_bool ha, ab_sr_self])] at hP1
  exact hk H1 locs1 ls hn (ab_oks_tl (ab_oks_tl (ab_oks_tl ho))) hol hP1 hS1 hl
theorem so_aaload2 (hx : p.tables.exec = Jvm.exec) (hb : c.code = ab_cc M) (hK : va_K D vwCl (ab_tys cy) s) (hC : ab_cld ad) : ab_c_aaload2 M Q (ab_G p l e R s m args below meth c D ad base cy nL Qf) := by
  intro pc L st S k κ i n j hd ha hin hk H locs ls hn ho hol hP hS hl
  have hi : i < ab_nb κ ∧ ad (κ, i) ≠ 0 := ab_oks_hd (ab_oks_tl ho)
  obtain ⟨q, hq⟩ := ab_pos hi
  have hlt : j.toNatClampNeg < n := Nat.not_le.mp fun q => hin (Or.inr q)
  exact va_aldq (f := fun j => some (ad (ab_el κ j))) hx hb hK hP q 2 (by rw [ab_wl_at hq, ab_enc_ref2 ha]) rfl hin hd (hk H locs ls hn (ab_oks_cons (ab_oks_tl (ab_oks_tl ho)) (ab_el_ok hC hi ha (Or.inl rfl) hlt)) hol hP hS hl)
theorem so_aaload3 (hx : p.tables.exec = Jvm.exec) (hb : c.code = ab_cc M) (hK : va_K D vwCl (ab_tys cy) s) (hC : ab_cld ad) : ab_c_aaload3 M Q (ab_G p l e R s m args below meth c D ad base cy nL Qf) := by
  intro pc L st S k κ i n j hd ha hin hk H locs ls hn ho hol hP hS hl
  have hi : i < ab_nb κ ∧ ad (κ, i) ≠ 0 := ab_oks_hd (ab_oks_tl ho)
  obtain ⟨q, hq⟩ := ab_pos hi
  have hlt : j.toNatClampNeg < n := Nat.not_le.mp fun q => hin (Or.inr q)
  have hc := hP q _ (ab_wl_at hq)
  rw [ab_enc_ref3 ha] at hc
  exact W.aald (v := .ref (ad (ab_el κ j.toNatClampNeg))) (ty := .array .int) hx hb hc ((hK.2 3 _ rfl).1 n (fun j => va_rf (some (ad (ab_el κ j))))) rfl (fun q => by cases q) (by show ¬ (j < 0 ∨ (arrV _ _ _).slots.size ≤ _); rw [arrV_size]; exact hin) (by show (arrV _ _ _).slots[_]? = _; rw [arrV_read _ _ hlt]; rfl) rfl rfl hd (hk H locs ls hn (ab_oks_cons (ab_oks_tl (ab_oks_tl ho)) (ab_el_ok hC hi ha (Or.inr rfl) hlt)) hol hP hS hl)
theorem so_alen (hx : p.tables.exec = Jvm.exec) (hb : c.code = ab_cc M) (hK : va_K D vwCl (ab_tys cy) s) : ab_c_alen M Q (ab_G p l e R s m args below meth c D ad base cy nL Qf) := by
  intro pc L st S k κ i n v hd ha hv hk H locs ls hn ho hol hP hS hl
  have hi : i < ab_nb κ ∧ ad (κ, i) ≠ 0 := ab_oks_hd ho
  obtain ⟨q, hq⟩ := ab_pos hi
  exact va_alen hx hb hK hP q 0 (x := (n, .inl (S κ i))) (by rw [ab_wl_at hq, ab_enc_int ha]) rfl hv hd (hk H locs ls hn (ab_oks_cons (ab_oks_tl ho) trivial) hol hP hS hl)
theorem so_min (hx : p.tables.exec = Jvm.exec) (hb : c.code = ab_cc M) (hml : c.maxLocals = nL) (hown : s.vm.findClass own = some m.cls) (hts : ∀ w ∈ Ts, w.before args s = true) (hmn : ∀ idx ∈ ab_mn M, (Cond.methodLink own idx Lib.Math.min.name ∈ Ts ∧ Cond.static Lib.Math.min.name ∈ Ts ∧ Cond.initialized "java/lang/Math" ∈ Ts ∧ Cond.code Lib.Math.min.name Lib.Math.min.code 2 (some .int) ∈ Ts) ∧ 1 ≤ R.frames ∧ 21 ≤ R.locals) (hRK : ab_K M ≤ R.cells ∧ 6 * ab_K M ≤ R.slots) : ab_c_min M Q (ab_G p l e R s m args below meth c D ad base cy nL Qf) := by
  intro pc L st S k idx x y hd hm h8 hkK hk H locs ls hn ho hol hP hS hl
  obtain ⟨⟨w1, w2, w3, w4⟩, r1, r2⟩ := hmn idx hm
  exact va_mmin hx hb (hml.trans hl.1.symm) hown (hts _ w1) (hts _ w2) (hts _ w3) (hts _ w4) r1 (by rw [ab_cats]; omega) (by omega) (by omega) hd (hk H locs ls hn (ab_oks_cons (ab_oks_tl (ab_oks_tl ho)) trivial) hol hP hS hl)
theorem so_acopy (hx : p.tables.exec = Jvm.exec) (hb : c.code = ab_cc M) (hml : c.maxLocals = nL) (hown : s.vm.findClass own = some m.cls) (hts : ∀ w ∈ Ts, w.before args s = true) (hK : va_K D vwCl (ab_tys cy) s) (hD : va_D (ab_A base) (ab_wl ad cy (fun _ _ _ => 0))) (hac : ∀ idx ∈ ab_ac M, (Cond.methodLink own idx arraycopyName ∈ Ts ∧ Cond.native arraycopyName ∈ Ts ∧ Cond.static arraycopyName ∈ Ts ∧ Cond.initialized "java/lang/System" ∈ Ts) ∧ 1 ≤ R.frames ∧ 8 + (nativeFrameWords "java/lang/System" "arraycopy" 5 + 11) ≤ R.locals) : ab_c_acopy M Q (ab_G p l e R s m args below meth c D ad base cy nL Qf) := by
  intro pc L st S k idx κs is κd id ns nd sp dp n hd hm hs hd2 h1 h2 h3 h4 h5 h8 hk H locs ls hn ho hol hP hS hl
  obtain ⟨⟨w1, w2, w3, w4⟩, r1, r2⟩ := hac idx hm
  have o3 := ab_oks_tl (ab_oks_tl ho)
  have hid : id < ab_nb κd ∧ ad (κd, id) ≠ 0 := ab_oks_hd o3
  have o5 := ab_oks_tl (ab_oks_tl o3)
  have his : is < ab_nb κs ∧ ad (κs, is) ≠ 0 := ab_oks_hd o5
  obtain ⟨qs, hqs⟩ := ab_pos his
  obtain ⟨qd, hqd⟩ := ab_pos hid
  refine va_copyi (ty := .int) hx hb (hml.trans hl.1.symm) hown (hts _ w1) (hts _ w2) (hts _ w3) (hts _ w4) hK hP (ab_D hD) hS qs qd 0 0 (by rw [ab_wl_at hqs, ab_enc_int hs]) (by rw [ab_wl_at hqd, ab_enc_int hd2]) rfl rfl rfl h1 h2 h3 h4 h5 (fun i hi => rfl) r1 (by rw [ab_cats]; omega) hd (fun H1 locs1 hP1 hD1 hS1 => ?_)
  rw [ab_set (f := va_cpy (S κs is) (S κd id) sp.toNatClampNeg dp.toNatClampNeg n.toNatClampNeg) hqd (by rw [ab_enc_int hd2, ab_sr_self])] at hP1
  exact hk H1 locs1 ls hn (ab_oks_tl o5) hol hP1 hS1 hl
theorem so_forget  : ab_c_forget M Q (ab_G p l e R s m args below meth c D ad base cy nL Qf) := by
  intro pc L st S k i hk H locs ls hn ho hol hP hS hl
  refine hk H locs ls (by rw [List.length_set]; exact hn) ho (fun v hv => ?_) hP hS ⟨hl.1, hl.2.1, fun q hq => hl.2.2 q ?_⟩
  · rcases List.mem_or_eq_of_mem_set hv with h1 | h1
    · exact hol v h1
    · cases h1
  · obtain ⟨j, w⟩ := q
    obtain ⟨u, hu, rfl⟩ := ab_lv_mem.mp hq
    refine ab_lv_mem.mpr ⟨u, ?_, rfl⟩
    by_cases hj : j = i
    · subst hj
      rw [List.getElem?_set_self'] at hu
      cases hL : L[j]? <;> rw [hL] at hu <;> simp at hu
    · rwa [List.getElem?_set_ne (fun e => hj e.symm)] at hu
end ABS
