/-! THE CLAIM OUT OF ONE WALK OF THE LAW'S BODY. Your part is whole_start (and what it stands on); all else here is the same for every law, but numbers. -/
def R_law : String := "GroveMergeLaw"
def lw_P (b : Addr) (xs : List Int32) (args : Array Value) (s : State) : Prop := args = #[.ref b] ∧ s.IntsAt b xs ∧ xs.length ≤ 256 ∧ (Jvm.Cond.and given_1 narrow_1).before args s = true
def lw_Q (_ : Array Value) (s : State) (o : Outcome) (t : State) : Prop := o = .returned (some (.int 1)) ∧ Framed s o t [] 600128 7301098
def lw_Z (below : List Frame) (a : Array Value) (s : State) : State → Prop := fun t => ∃ o, t.status = .running ∧ Ended t below o ∧ lw_Q a s o t
/-- the law's own end, with 1 on the stack, nothing written that was there before, its room as the claim has it -/
theorem lw_ret {p : Program} {l : Launch} {e : Env} {s : State} {m : MethodId} {below : List Frame} {meth : Method} {c : Code} {b : Nat} (hx : p.tables.exec = Jvm.exec) (hb : c.code = code) (hr : meth.sig.returnType = ret) (hlocks : meth.locks = false) {pc : Nat} {H : Heap} {ls : Array Slot} (hdg : decode code pc = .ok (.ireturn, 1)) : W p l e room_1 s m #[Value.ref b] below meth c H [] 600128 7301098 (lw_Z below #[Value.ref b] s) (F0 m pc ls [.int 1]) := by
  intro T hT X
  obtain ⟨fs, hret, hrun, hended, hW, hframe⟩ := X.leave (v := some (.int 1)) (hlocks := hlocks) (fun h => by rw [hr] at h; cases h)
  have hmeth' : T.vm.method? m = some meth := X.method'
  refine ⟨T.setFrames fs, ?_, .returned (some (.int 1)), hrun, hended, rfl, ⟨_, rfl⟩, hW, hframe⟩
  jvm_step X.here [X.here.top, hx, hb, hdg, hmeth', hr, ret, narrow_b1]
  (try refine ⟨rfl, ?_⟩); (try refine ⟨rfl, ?_⟩)
  first | (intro acts; rw [hret _ acts rfl rfl rfl]) | rw [hret _ _ rfl rfl rfl]
  exact Steps.refl _
/-- what holds at the law's entry: the machine, the code, the tables' words (any of lw_tbl by 'hts w (by decide +kernel)'), the script of L ints xs at the cell b, what the Statement gives of the start (any of its parts by flat_of_before) -/
def lw_At (p : Program) (s : State) (m : MethodId) (meth : Method) (c : Code) (b L : Nat) (xs : Nat → Int32) : Prop :=
  p.tables.exec = Jvm.exec ∧ c.code = code ∧ meth.sig.returnType = ret ∧ c.maxLocals = 7 ∧ s.vm.findClass R_law = some m.cls ∧ (∀ w ∈ lw_tbl, w.before #[Value.ref b] s = true) ∧ va_X b L xs s s.heap ∧ b < s.heap.size ∧ meth.locks = false ∧ (Jvm.Cond.and given_1 narrow_1).before #[Value.ref b] s = true
/-- the law's own: what it stands in through all its calls -/
def LC (p : Program) (l : Launch) (s : State) (m : MethodId) (meth : Method) (c : Code) (b L : Nat) (xs : Nat → Int32) (D : va_G) (ad : ab_Ob → Nat) (cy : Nat → ClassId) (sa : Nat → Nat) : Prop := lw_At p s m meth c b L xs ∧ L ≤ 256 ∧ l.stackTraces = false ∧ ab_Kn D ad s.heap.size cy sa s ∧ wr_K s ∧ ((0 : Nat) < ab_nb 0 ∧ ad (0, 0) ≠ 0) ∧ ((0 : Nat) < ab_nb 21 ∧ ad (21, 0) ≠ 0) ∧ ((0 : Nat) < ab_nb 41 ∧ ad (41, 0) ≠ 0)
abbrev lw_lv (b i : Nat) (ad : ab_Ob → Nat) : List (Nat × Value) := [(4, .int (nI i)), (3, .ref (ad (41, 0))), (2, .ref (ad (21, 0))), (1, .ref (ad (0, 0))), (0, .ref b)]
section LWC
variable {p : Program} {l : Launch} {e : Env} {s : State} {m : MethodId} {below : List Frame} {meth : Method} {c : Code} {b L : Nat} {xs : Nat → Int32} {D : va_G} {ad : ab_Ob → Nat} {cy : Nat → ClassId} {sa : Nat → Nat} {H : Heap} {locs : List Loc} {cells slots i : Nat} {ls : Array Slot} {S : ab_S} {Q : State → Prop}
theorem lw_thrown (C : LC p l s m meth c b L xs D ad cy sa) {pc : Nat} {rest : List Value} (hP : va_P D vwCl (ab_wl ad cy S) H) (hS : va_S (ab_A s.heap.size) s.heap H locs) (hls : ls.size = 7) (hr8 : (rest.map fun v => v.category).sum ≤ 8) (hce : cells ≤ 3000) (hsl : slots ≤ 20000) (hd : decode code pc = .ok (.invokevirtual 84, 3))
    (kk : ∀ (H1 : Heap) (locs1 : List Loc), va_P D vwCl (ab_wl ad cy S) H1 → va_S (ab_A s.heap.size) s.heap H1 locs1 → W p l e room_1 s m #[.ref b] below meth c H1 locs1 cells slots Q (F0 m (pc + 3) ls (.int (S 21 0 0) :: rest))) : W p l e room_1 s m #[.ref b] below meth c H locs cells slots Q (F0 m pc ls (.ref (ad (21, 0)) :: rest)) := by
  obtain ⟨C0, hL, hlt, hKn, hwK, h00, h21, h41⟩ := C
  obtain ⟨hx, hb, hr, hml, hown, hts0, hX, hbl, hlocks, hgv⟩ := C0
  have hts : ∀ w ∈ wsL_law, w.before #[Value.ref b] s = true := fun w h => hts0 w (wsL_law_in w h)
  have hrun := wr_run (R := room_1) (n := 0) (rest := rest) (locs := locs) (cells := cells) (slots := slots) (below := below) (e := e) (meth := meth) (ls := ls) (pc := pc) hx hb hml hown hts hKn (Nat.le_refl _) (so_X6_thrown l) gL_law_X6_thrown (21, 0) rfl rfl ⟨by decide +kernel, by decide +kernel, by decide +kernel⟩ (by decide) h21 rfl [] (fun v hv => absurd hv List.not_mem_nil) rfl hr8 (lw_thr (Q := fun o S' => o = .inl (some (S 21 0 0)) ∧ S' = S) ⟨rfl, rfl⟩) hP hS hls hd (by show cells + 0 ≤ 600128; omega) (by show slots + 0 ≤ 7301098; omega)
  refine vx_calli (a := #[]) (S := ab_S) (SX := ab_S × Nat) hrun hS (fun q _ h => h) (fun q h => h) (fun q _ h => h) (fun E ce q9 u t H1 locs1 ht _ hpx _ _ _ _ _ _ _ => (by cases hpx.1)) (fun rt S3 t3 H3 locs3 ht3 _ hp3 hB3 _ _ hS3 => ?_)
  obtain ⟨e3, rfl⟩ := hp3
  cases e3
  exact kk H3 locs3 (by rw [← ht3]; exact hB3) hS3
theorem lw_tailV (C : LC p l s m meth c b L xs D ad cy sa) {pc : Nat} {off : Int} {r : Int32} (hl : lv_has ls 7 ((5, .int r) :: lw_lv b i ad)) (hP : va_P D vwCl (ab_wl ad cy S) H) (hS : va_S (ab_A s.heap.size) s.heap H locs) (hce : cells ≤ 3000) (hsl : slots ≤ 20000) (hth : S 21 0 0 = r)
    (d0 : decode code pc = .ok (.aload_n 2, 1)) (d1 : decode code (pc + 1) = .ok (.invokevirtual 84, 3)) (d4 : decode code (pc + 4) = .ok (.iload 5, 2)) (d6 : decode code (pc + 6) = .ok (.if_icmp .eq 5, 3)) (d11 : decode code (pc + 11) = .ok (.goto off, 3)) (ht : ((pc + 11 : Nat) : Int) + off = 1146)
    (kk : ∀ (H1 : Heap) (locs1 : List Loc), va_P D vwCl (ab_wl ad cy S) H1 → va_S (ab_A s.heap.size) s.heap H1 locs1 → W p l e room_1 s m #[.ref b] below meth c H1 locs1 cells slots Q (F0 m 1146 ls [])) : W p l e room_1 s m #[.ref b] below meth c H locs cells slots Q (F0 m pc ls []) := by
  have hx := C.1.1
  have hb := C.1.2.1
  refine lv_aload_n hx hb d0 rfl (lv_at hl 3 rfl) ?_
  refine lw_thrown C hP hS hl.1 (Nat.le_of_ble_eq_true rfl) hce hsl d1 (fun H1 locs1 hP1 hS1 => ?_)
  refine lv_iload hx hb d4 (lv_at hl 0 rfl) ?_
  refine lv_icmp_eq hx hb d6 (tgt := pc + 11) (by omega) (fun _ => ?_) (fun h => absurd hth h)
  exact lv_goto hx hb d11 (tgt := 1146) (by omega) (kk H1 locs1 hP1 hS1)
theorem lw_tailI (C : LC p l s m meth c b L xs D ad cy sa) {pc : Nat} {off : Int} {r r6 : Int32} (hl : lv_has ls 7 ((6, .int r6) :: (5, .int r) :: lw_lv b i ad)) (hP : va_P D vwCl (ab_wl ad cy S) H) (hS : va_S (ab_A s.heap.size) s.heap H locs) (hce : cells ≤ 3000) (hsl : slots ≤ 20000) (hth : S 21 0 0 = r) (hval : r = 0 → r6 = S 41 0 0)
    (d0 : decode code pc = .ok (.aload_n 2, 1)) (d1 : decode code (pc + 1) = .ok (.invokevirtual 84, 3)) (d4 : decode code (pc + 4) = .ok (.iload 5, 2)) (d6 : decode code (pc + 6) = .ok (.if_icmp .eq 5, 3)) (d11 : decode code (pc + 11) = .ok (.iload 5, 2)) (d13 : decode code (pc + 13) = .ok (.ifCond .ne 15, 3)) (d16 : decode code (pc + 16) = .ok (.aload_n 3, 1)) (d17 : decode code (pc + 17) = .ok (.iconst 0, 1)) (d18 : decode code (pc + 18) = .ok (.laload, 1)) (d19 : decode code (pc + 19) = .ok (.iload 6, 2)) (d21 : decode code (pc + 21) = .ok (.i2l, 1)) (d22 : decode code (pc + 22) = .ok (.lcmp, 1)) (d23 : decode code (pc + 23) = .ok (.ifCond .eq 5, 3)) (d28 : decode code (pc + 28) = .ok (.goto off, 3)) (ht : ((pc + 28 : Nat) : Int) + off = 1146)
    (kk : ∀ (H1 : Heap) (locs1 : List Loc), va_P D vwCl (ab_wl ad cy S) H1 → va_S (ab_A s.heap.size) s.heap H1 locs1 → W p l e room_1 s m #[.ref b] below meth c H1 locs1 cells slots Q (F0 m 1146 ls [])) : W p l e room_1 s m #[.ref b] below meth c H locs cells slots Q (F0 m pc ls []) := by
  have hx := C.1.1
  have hb := C.1.2.1
  have hKn := C.2.2.2.1
  have h41 := C.2.2.2.2.2.2.2
  refine lv_aload_n hx hb d0 rfl (lv_at hl 4 rfl) ?_
  refine lw_thrown C hP hS hl.1 (Nat.le_of_ble_eq_true rfl) hce hsl d1 (fun H1 locs1 hP1 hS1 => ?_)
  refine lv_iload hx hb d4 (lv_at hl 1 rfl) ?_
  refine lv_icmp_eq hx hb d6 (tgt := pc + 11) (by omega) (fun _ => ?_) (fun h => absurd hth h)
  refine lv_iload hx hb d11 (lv_at hl 1 rfl) ?_
  refine lv_if_ne hx hb d13 (tgt := pc + 28) (by omega) (fun _ => ?_) (fun h0 => ?_)
  · exact lv_goto hx hb d28 (tgt := 1146) (by omega) (kk H1 locs1 hP1 hS1)
  · refine lv_aload_n hx hb d16 rfl (lv_at hl 3 rfl) ?_
    refine lv_iconst hx hb d17 (v := 0) (by decide) ?_
    obtain ⟨q, hq⟩ := ab_pos (ad := ad) (κ := 41) (i := 0) h41
    refine va_lald hx hb hKn.1 hP1 q 4 (f := fun _ => (S 41 0 0).toInt64) (n := 1) (by rw [ab_wl_at hq]; rfl) rfl (pk_in 0 1 (by omega)) d18 ?_
    refine lv_iload hx hb d19 (lv_at hl 0 rfl) ?_
    refine lv_i2l hx hb d21 rfl ?_
    rw [hval h0]
    refine lv_lcmp0 hx hb d22 ?_
    refine lv_if_eq hx hb d23 (tgt := pc + 28) (by omega) (fun _ => ?_) (fun h => absurd rfl h)
    exact lv_goto hx hb d28 (tgt := 1146) (by omega) (kk H1 locs1 hP1 hS1)
set_option maxRecDepth 20000 in
theorem lc_insert (C : LC p l s m meth c b L xs D ad cy sa) (hi : i + 3 < L) (hl : lv_has ls 7 (lw_lv b i ad)) (hP : va_P D vwCl (ab_wl ad cy S) H) (hS : va_S (ab_A s.heap.size) s.heap H locs) (hJ : Jv S) (hce : cells ≤ 2000) (hsl : slots ≤ 12000)
    (kk : ∀ (H1 : Heap) (locs1 : List Loc) (ls1 : Array Slot) (S1 : ab_S), lv_has ls1 7 (lw_lv b i ad) → va_P D vwCl (ab_wl ad cy S1) H1 → va_S (ab_A s.heap.size) s.heap H1 locs1 → Jv S1 → W p l e room_1 s m #[.ref b] below meth c H1 locs1 (cells + 4) (slots + 24) Q (F0 m 1146 ls1 [])) : W p l e room_1 s m #[.ref b] below meth c H locs cells slots Q (F0 m 124 ls []) := by
  obtain ⟨C0, hL, hlt, hKn, hwK, h00, h21, h41⟩ := id C
  obtain ⟨hx, hb, hr, hml, hown, hts0, hX, hbl, hlocks, hgv⟩ := id C0
  have hts : ∀ w ∈ wsL_law, w.before #[Value.ref b] s = true := fun w h => hts0 w (wsL_law_in w h)
  refine lv_aload_n hx hb dL_law_124 rfl (lv_at hl 3 rfl) ?_
  refine lw_arg (k := 1) hx hb hX hbl hS hL (by omega) (lv_at hl 4 rfl) (lv_at hl 0 rfl) (by decide) dL_law_125 dL_law_126 dL_law_128 dL_law_129 dL_law_130 ?_
  refine lw_arg (k := 2) hx hb hX hbl hS hL (by omega) (lv_at hl 4 rfl) (lv_at hl 0 rfl) (by decide) dL_law_131 dL_law_132 dL_law_134 dL_law_135 dL_law_136 ?_
  refine lw_arg (k := 3) hx hb hX hbl hS hL (by omega) (lv_at hl 4 rfl) (lv_at hl 0 rfl) (by decide) dL_law_137 dL_law_138 dL_law_140 dL_law_141 dL_law_142 ?_
  refine lv_aload_n hx hb dL_law_143 rfl (lv_at hl 1 rfl) ?_
  have hτ := lw_qI (X := fun E => (E, cd4 E) ∈ cdl_insert ∧ cd4 E ≠ 0) (cdl := cdl_insert) (op_insert (x1 := xs (i + 1)) (x2 := xs (i + 2)) (x3 := xs (i + 3)) hJ) (tw_X5_insert (by decide) (by decide) (by decide) (by decide)) (fun E h => h) tw_X6_insert kp_X6_insert
  have hoks : ab_oks ad [.inr (0, 0), .inl (xs (i + 1)), .inl (xs (i + 2)), .inl (xs (i + 3)), .inr (41, 0)] := by
    intro v hv
    simp only [List.mem_cons, List.not_mem_nil, or_false] at hv
    rcases hv with rfl | rfl | rfl | rfl | rfl
    · exact h00
    · exact trivial
    · exact trivial
    · exact trivial
    · exact h41
  refine va_calli (a := #[]) (vx_runSW (R := room_1) (As := [.ref (ad (0, 0)), .int (xs (i + 1)), .int (xs (i + 2)), .int (xs (i + 3)), .ref (ad (41, 0))]) (rest := []) (g := F0 m 144 ls (([.ref (ad (0, 0)), .int (xs (i + 1)), .int (xs (i + 2)), .int (xs (i + 3)), .ref (ad (41, 0))] : List Value).reverse ++ [])) ⟨hx, hb, hml, hown, hts⟩ (wr_insert l hlt D ad s.heap.size cy sa _ _ _ S _ hτ) (vx_cwSW 5 hts gL_law_L_insert rfl rfl rfl ⟨by decide +kernel, by decide +kernel, by decide +kernel⟩ (by decide)) ⟨wr_blind _ _ _ _ _ _ _, fun U hU hW => ⟨rfl, hoks, by rw [hU]; exact hS.1, by rw [hU]; exact hP, ab_Kn.warm hW (by rw [hU]; exact hS.2.1) hKn, hwK.moved hW.alike⟩⟩ rfl rfl hl.1 rfl (lv_room (Nat.le_of_ble_eq_true rfl)) dL_law_144 ⟨by show cells + 4 ≤ 600128; omega, by show slots + 24 ≤ 7301098; omega⟩) hS (fun q _ h => h) (fun q h => h) (fun r S1 t1 H1 locs1 ht1 _ hp1 hB1 _ _ hS1 => ?_)
  have hP1 : va_P D vwCl (ab_wl ad cy S1) H1 := by rw [← ht1]; exact hB1
  refine lv_istore hx hb dL_law_147 hl (by decide) rfl (fun ls1 hl1 => ?_)
  have hl1 : lv_has ls1 7 ((5, .int r) :: lw_lv b i ad) := hl1
  refine lv_aload_n hx hb dL_law_149 rfl (lv_at hl1 3 rfl) ?_
  refine lw_arg (k := 1) hx hb hX hbl hS1 hL (by omega) (lv_at hl1 5 rfl) (lv_at hl1 1 rfl) (by decide) dL_law_150 dL_law_151 dL_law_153 dL_law_154 dL_law_155 ?_
  refine lw_arg (k := 2) hx hb hX hbl hS1 hL (by omega) (lv_at hl1 5 rfl) (lv_at hl1 1 rfl) (by decide) dL_law_156 dL_law_157 dL_law_159 dL_law_160 dL_law_161 ?_
  refine lw_arg (k := 3) hx hb hX hbl hS1 hL (by omega) (lv_at hl1 5 rfl) (lv_at hl1 1 rfl) (by decide) dL_law_162 dL_law_163 dL_law_165 dL_law_166 dL_law_167 ?_
  unfold LQI at hp1
  have hrun := wr_run (R := room_1) (n := 3) (rest := []) (locs := locs1) (cells := cells + 4) (slots := slots + 24) (below := below) (e := e) (meth := meth) (ls := ls1) (pc := 168) hx hb hml hown hts hKn (Nat.le_refl _) (so_X6_insert l) gL_law_X6_insert (21, 0) rfl rfl ⟨by decide +kernel, by decide +kernel, by decide +kernel⟩ (by decide) h21 rfl [.inl (xs (i + 1)), .inl (xs (i + 2)), .inl (xs (i + 3))] (by intro v hv; simp only [List.mem_cons, List.not_mem_nil, or_false] at hv; rcases hv with rfl | rfl | rfl <;> exact trivial) rfl (Nat.le_of_ble_eq_true rfl) hp1 hP1 hS1 hl1.1 dL_law_168 (by show cells + 4 + 0 ≤ 600128; omega) (by show slots + 24 + 0 ≤ 7301098; omega)
  refine vx_calli (a := #[]) (S := ab_S) (SX := ab_S × Nat) hrun hS1 (fun q _ h => h) (fun q h => h) (fun q _ h => h) (fun E ce q9 u t H1 locs1 ht _ hpx _ _ _ _ _ _ _ => absurd rfl (hpx.1 u.2)) (fun r6 S2 t2 H2 locs2 ht2 _ hp2 hB2 _ _ hS2 => ?_)
  obtain ⟨-, hk41, hJ2, hth, hval⟩ := hp2
  have hP2 : va_P D vwCl (ab_wl ad cy S2) H2 := by rw [← ht2]; exact hB2
  refine W.widen (k := cells + 4) (n := slots + 24) (by show cells + 4 + 0 ≤ cells + 4; omega) (by show slots + 24 + 0 ≤ slots + 24; omega) ?_
  refine lv_istore hx hb dL_law_171 hl1 (by decide) rfl (fun ls2 hl2 => ?_)
  have hl2 : lv_has ls2 7 ((6, .int r6) :: (5, .int r) :: lw_lv b i ad) := hl2
  have hv : r = 0 → r6 = S2 41 0 0 := fun z => by
    have := hval z
    rw [hk41]
    cases this
    rfl
  exact lw_tailI C hl2 hP2 hS2 (by omega) (by omega) hth hv dL_law_173 dL_law_174 dL_law_177 dL_law_179 dL_law_184 dL_law_186 dL_law_189 dL_law_190 dL_law_191 dL_law_192 dL_law_194 dL_law_195 dL_law_196 dL_law_201 (by decide) (fun H3 locs3 hP3 hS3 => kk H3 locs3 ls2 S2 (lv_sub hl2 [2, 3, 4, 5, 6] rfl) hP3 hS3 hJ2)
set_option maxRecDepth 20000 in
theorem lc_delete (C : LC p l s m meth c b L xs D ad cy sa) (hi : i + 3 < L) (hl : lv_has ls 7 (lw_lv b i ad)) (hP : va_P D vwCl (ab_wl ad cy S) H) (hS : va_S (ab_A s.heap.size) s.heap H locs) (hJ : Jv S) (hce : cells ≤ 2000) (hsl : slots ≤ 12000)
    (kk : ∀ (H1 : Heap) (locs1 : List Loc) (ls1 : Array Slot) (S1 : ab_S), lv_has ls1 7 (lw_lv b i ad) → va_P D vwCl (ab_wl ad cy S1) H1 → va_S (ab_A s.heap.size) s.heap H1 locs1 → Jv S1 → W p l e room_1 s m #[.ref b] below meth c H1 locs1 (cells + 4) (slots + 24) Q (F0 m 1146 ls1 [])) : W p l e room_1 s m #[.ref b] below meth c H locs cells slots Q (F0 m 204 ls []) := by
  obtain ⟨C0, hL, hlt, hKn, hwK, h00, h21, h41⟩ := id C
  obtain ⟨hx, hb, hr, hml, hown, hts0, hX, hbl, hlocks, hgv⟩ := id C0
  have hts : ∀ w ∈ wsL_law, w.before #[Value.ref b] s = true := fun w h => hts0 w (wsL_law_in w h)
  refine lv_aload_n hx hb dL_law_204 rfl (lv_at hl 3 rfl) ?_
  refine lw_arg (k := 1) hx hb hX hbl hS hL (by omega) (lv_at hl 4 rfl) (lv_at hl 0 rfl) (by decide) dL_law_205 dL_law_206 dL_law_208 dL_law_209 dL_law_210 ?_
  refine lv_aload_n hx hb dL_law_211 rfl (lv_at hl 1 rfl) ?_
  have hτ := lw_qI (X := fun E => (E, cd12 E) ∈ cdl_delete ∧ cd12 E ≠ 0) (cdl := cdl_delete) (op_delete (x1 := xs (i + 1)) hJ) (tw_X5_delete (by decide) (by decide)) (fun E h => h) tw_X6_delete kp_X6_delete
  have hoks : ab_oks ad [.inr (0, 0), .inl (xs (i + 1)), .inr (41, 0)] := by
    intro v hv
    simp only [List.mem_cons, List.not_mem_nil, or_false] at hv
    rcases hv with rfl | rfl | rfl
    · exact h00
    · exact trivial
    · exact h41
  refine va_calli (a := #[]) (vx_runSW (R := room_1) (As := [.ref (ad (0, 0)), .int (xs (i + 1)), .ref (ad (41, 0))]) (rest := []) (g := F0 m 212 ls (([.ref (ad (0, 0)), .int (xs (i + 1)), .ref (ad (41, 0))] : List Value).reverse ++ [])) ⟨hx, hb, hml, hown, hts⟩ (wr_delete l hlt D ad s.heap.size cy sa _ S _ hτ) (vx_cwSW 3 hts gL_law_L_delete rfl rfl rfl ⟨by decide +kernel, by decide +kernel, by decide +kernel⟩ (by decide)) ⟨wr_blind _ _ _ _ _ _ _, fun U hU hW => ⟨rfl, hoks, by rw [hU]; exact hS.1, by rw [hU]; exact hP, ab_Kn.warm hW (by rw [hU]; exact hS.2.1) hKn, hwK.moved hW.alike⟩⟩ rfl rfl hl.1 rfl (lv_room (Nat.le_of_ble_eq_true rfl)) dL_law_212 ⟨by show cells + 2 ≤ 600128; omega, by show slots + 12 ≤ 7301098; omega⟩) hS (fun q _ h => h) (fun q h => h) (fun r S1 t1 H1 locs1 ht1 _ hp1 hB1 _ _ hS1 => ?_)
  have hP1 : va_P D vwCl (ab_wl ad cy S1) H1 := by rw [← ht1]; exact hB1
  refine lv_istore hx hb dL_law_215 hl (by decide) rfl (fun ls1 hl1 => ?_)
  have hl1 : lv_has ls1 7 ((5, .int r) :: lw_lv b i ad) := hl1
  refine lv_aload_n hx hb dL_law_217 rfl (lv_at hl1 3 rfl) ?_
  refine lw_arg (k := 1) hx hb hX hbl hS1 hL (by omega) (lv_at hl1 5 rfl) (lv_at hl1 1 rfl) (by decide) dL_law_218 dL_law_219 dL_law_221 dL_law_222 dL_law_223 ?_
  unfold LQI at hp1
  have hrun := wr_run (R := room_1) (n := 1) (rest := []) (locs := locs1) (cells := cells + 2) (slots := slots + 12) (below := below) (e := e) (meth := meth) (ls := ls1) (pc := 224) hx hb hml hown hts hKn (Nat.le_refl _) (so_X6_delete l) gL_law_X6_delete (21, 0) rfl rfl ⟨by decide +kernel, by decide +kernel, by decide +kernel⟩ (by decide) h21 rfl [.inl (xs (i + 1))] (by intro v hv; simp only [List.mem_cons, List.not_mem_nil, or_false] at hv; rcases hv with rfl <;> exact trivial) rfl (Nat.le_of_ble_eq_true rfl) hp1 hP1 hS1 hl1.1 dL_law_224 (by show cells + 2 + 0 ≤ 600128; omega) (by show slots + 12 + 0 ≤ 7301098; omega)
  refine vx_calli (a := #[]) (S := ab_S) (SX := ab_S × Nat) hrun hS1 (fun q _ h => h) (fun q h => h) (fun q _ h => h) (fun E ce q9 u t H1 locs1 ht _ hpx _ _ _ _ _ _ _ => absurd rfl (hpx.1 u.2)) (fun r6 S2 t2 H2 locs2 ht2 _ hp2 hB2 _ _ hS2 => ?_)
  obtain ⟨-, hk41, hJ2, hth, hval⟩ := hp2
  have hP2 : va_P D vwCl (ab_wl ad cy S2) H2 := by rw [← ht2]; exact hB2
  refine W.widen (k := cells + 4) (n := slots + 24) (by show cells + 2 + 0 ≤ cells + 4; omega) (by show slots + 12 + 0 ≤ slots + 24; omega) ?_
  refine lv_istore hx hb dL_law_227 hl1 (by decide) rfl (fun ls2 hl2 => ?_)
  have hl2 : lv_has ls2 7 ((6, .int r6) :: (5, .int r) :: lw_lv b i ad) := hl2
  have hv : r = 0 → r6 = S2 41 0 0 := fun z => by
    have := hval z
    rw [hk41]
    cases this
    rfl
  exact lw_tailI C hl2 hP2 hS2 (by omega) (by omega) hth hv dL_law_229 dL_law_230 dL_law_233 dL_law_235 dL_law_240 dL_law_242 dL_law_245 dL_law_246 dL_law_247 dL_law_248 dL_law_250 dL_law_251 dL_law_252 dL_law_257 (by decide) (fun H3 locs3 hP3 hS3 => kk H3 locs3 ls2 S2 (lv_sub hl2 [2, 3, 4, 5, 6] rfl) hP3 hS3 hJ2)
set_option maxRecDepth 20000 in
theorem lc_move (C : LC p l s m meth c b L xs D ad cy sa) (hi : i + 3 < L) (hl : lv_has ls 7 (lw_lv b i ad)) (hP : va_P D vwCl (ab_wl ad cy S) H) (hS : va_S (ab_A s.heap.size) s.heap H locs) (hJ : Jv S) (hce : cells ≤ 2000) (hsl : slots ≤ 12000)
    (kk : ∀ (H1 : Heap) (locs1 : List Loc) (ls1 : Array Slot) (S1 : ab_S), lv_has ls1 7 (lw_lv b i ad) → va_P D vwCl (ab_wl ad cy S1) H1 → va_S (ab_A s.heap.size) s.heap H1 locs1 → Jv S1 → W p l e room_1 s m #[.ref b] below meth c H1 locs1 (cells + 4) (slots + 24) Q (F0 m 1146 ls1 [])) : W p l e room_1 s m #[.ref b] below meth c H locs cells slots Q (F0 m 260 ls []) := by
  obtain ⟨C0, hL, hlt, hKn, hwK, h00, h21, h41⟩ := id C
  obtain ⟨hx, hb, hr, hml, hown, hts0, hX, hbl, hlocks, hgv⟩ := id C0
  have hts : ∀ w ∈ wsL_law, w.before #[Value.ref b] s = true := fun w h => hts0 w (wsL_law_in w h)
  refine lv_aload_n hx hb dL_law_260 rfl (lv_at hl 3 rfl) ?_
  refine lw_arg (k := 1) hx hb hX hbl hS hL (by omega) (lv_at hl 4 rfl) (lv_at hl 0 rfl) (by decide) dL_law_261 dL_law_262 dL_law_264 dL_law_265 dL_law_266 ?_
  refine lw_arg (k := 2) hx hb hX hbl hS hL (by omega) (lv_at hl 4 rfl) (lv_at hl 0 rfl) (by decide) dL_law_267 dL_law_268 dL_law_270 dL_law_271 dL_law_272 ?_
  refine lw_arg (k := 3) hx hb hX hbl hS hL (by omega) (lv_at hl 4 rfl) (lv_at hl 0 rfl) (by decide) dL_law_273 dL_law_274 dL_law_276 dL_law_277 dL_law_278 ?_
  have hτ := lw_qV (X := fun E => (E, cd132 E) ∈ cdl_move) (cdl := cdl_move) (op_move (x1 := xs (i + 1)) (x2 := xs (i + 2)) (x3 := xs (i + 3)) hJ) (tw_X5_move (by decide) (by decide) (by decide)) (fun E h => h) tw_X6_move kp_X6_move
  have hoks : ab_oks ad [.inr (0, 0), .inl (xs (i + 1)), .inl (xs (i + 2)), .inl (xs (i + 3))] := by
    intro v hv
    simp only [List.mem_cons, List.not_mem_nil, or_false] at hv
    rcases hv with rfl | rfl | rfl | rfl
    · exact h00
    · exact trivial
    · exact trivial
    · exact trivial
  refine va_calli (a := #[]) (vx_runSW (R := room_1) (As := [.ref (ad (0, 0)), .int (xs (i + 1)), .int (xs (i + 2)), .int (xs (i + 3))]) (rest := []) (g := F0 m 279 ls (([.ref (ad (0, 0)), .int (xs (i + 1)), .int (xs (i + 2)), .int (xs (i + 3))] : List Value).reverse ++ [])) ⟨hx, hb, hml, hown, hts⟩ (wr_move l hlt D ad s.heap.size cy sa _ _ _ S _ hτ) (vx_cwSW 4 hts gL_law_L_move rfl rfl rfl ⟨by decide +kernel, by decide +kernel, by decide +kernel⟩ (by decide)) ⟨wr_blind _ _ _ _ _ _ _, fun U hU hW => ⟨rfl, hoks, by rw [hU]; exact hS.1, by rw [hU]; exact hP, ab_Kn.warm hW (by rw [hU]; exact hS.2.1) hKn, hwK.moved hW.alike⟩⟩ rfl rfl hl.1 rfl (lv_room (Nat.le_of_ble_eq_true rfl)) dL_law_279 ⟨by show cells + 4 ≤ 600128; omega, by show slots + 24 ≤ 7301098; omega⟩) hS (fun q _ h => h) (fun q h => h) (fun r S1 t1 H1 locs1 ht1 _ hp1 hB1 _ _ hS1 => ?_)
  have hP1 : va_P D vwCl (ab_wl ad cy S1) H1 := by rw [← ht1]; exact hB1
  refine lv_istore hx hb dL_law_282 hl (by decide) rfl (fun ls1 hl1 => ?_)
  have hl1 : lv_has ls1 7 ((5, .int r) :: lw_lv b i ad) := hl1
  refine lv_aload_n hx hb dL_law_284 rfl (lv_at hl1 3 rfl) ?_
  refine lw_arg (k := 1) hx hb hX hbl hS1 hL (by omega) (lv_at hl1 5 rfl) (lv_at hl1 1 rfl) (by decide) dL_law_285 dL_law_286 dL_law_288 dL_law_289 dL_law_290 ?_
  refine lw_arg (k := 2) hx hb hX hbl hS1 hL (by omega) (lv_at hl1 5 rfl) (lv_at hl1 1 rfl) (by decide) dL_law_291 dL_law_292 dL_law_294 dL_law_295 dL_law_296 ?_
  refine lw_arg (k := 3) hx hb hX hbl hS1 hL (by omega) (lv_at hl1 5 rfl) (lv_at hl1 1 rfl) (by decide) dL_law_297 dL_law_298 dL_law_300 dL_law_301 dL_law_302 ?_
  unfold LQV at hp1
  have hrun := wr_run (R := room_1) (n := 3) (rest := []) (locs := locs1) (cells := cells + 4) (slots := slots + 24) (below := below) (e := e) (meth := meth) (ls := ls1) (pc := 303) hx hb hml hown hts hKn (Nat.le_refl _) (so_X6_move l) gL_law_X6_move (21, 0) rfl rfl ⟨by decide +kernel, by decide +kernel, by decide +kernel⟩ (by decide) h21 rfl [.inl (xs (i + 1)), .inl (xs (i + 2)), .inl (xs (i + 3))] (by intro v hv; simp only [List.mem_cons, List.not_mem_nil, or_false] at hv; rcases hv with rfl | rfl | rfl <;> exact trivial) rfl (Nat.le_of_ble_eq_true rfl) hp1 hP1 hS1 hl1.1 dL_law_303 (by show cells + 4 + 0 ≤ 600128; omega) (by show slots + 24 + 0 ≤ 7301098; omega)
  refine vx_callv (a := #[]) (S := ab_S) (SX := ab_S × Nat) hrun hS1 (fun q _ h => h) (fun q h => h) (fun q _ h => h) (fun E ce q9 u t H1 locs1 ht _ hpx _ _ _ _ _ _ _ => absurd rfl (hpx.1 u.2)) (fun S2 t2 H2 locs2 ht2 _ hp2 hB2 _ _ hS2 => ?_)
  obtain ⟨-, hk41, hJ2, hth⟩ := hp2
  have hP2 : va_P D vwCl (ab_wl ad cy S2) H2 := by rw [← ht2]; exact hB2
  refine W.widen (k := cells + 4) (n := slots + 24) (by show cells + 4 + 0 ≤ cells + 4; omega) (by show slots + 24 + 0 ≤ slots + 24; omega) ?_
  exact lw_tailV C hl1 hP2 hS2 (by omega) (by omega) hth dL_law_306 dL_law_307 dL_law_310 dL_law_312 dL_law_317 (by decide) (fun H3 locs3 hP3 hS3 => kk H3 locs3 ls1 S2 (lv_sub hl1 [1, 2, 3, 4, 5] rfl) hP3 hS3 hJ2)
set_option maxRecDepth 20000 in
theorem lc_relabel (C : LC p l s m meth c b L xs D ad cy sa) (hi : i + 3 < L) (hl : lv_has ls 7 (lw_lv b i ad)) (hP : va_P D vwCl (ab_wl ad cy S) H) (hS : va_S (ab_A s.heap.size) s.heap H locs) (hJ : Jv S) (hce : cells ≤ 2000) (hsl : slots ≤ 12000)
    (kk : ∀ (H1 : Heap) (locs1 : List Loc) (ls1 : Array Slot) (S1 : ab_S), lv_has ls1 7 (lw_lv b i ad) → va_P D vwCl (ab_wl ad cy S1) H1 → va_S (ab_A s.heap.size) s.heap H1 locs1 → Jv S1 → W p l e room_1 s m #[.ref b] below meth c H1 locs1 (cells + 4) (slots + 24) Q (F0 m 1146 ls1 [])) : W p l e room_1 s m #[.ref b] below meth c H locs cells slots Q (F0 m 320 ls []) := by
  obtain ⟨C0, hL, hlt, hKn, hwK, h00, h21, h41⟩ := id C
  obtain ⟨hx, hb, hr, hml, hown, hts0, hX, hbl, hlocks, hgv⟩ := id C0
  have hts : ∀ w ∈ wsL_law, w.before #[Value.ref b] s = true := fun w h => hts0 w (wsL_law_in w h)
  refine lv_aload_n hx hb dL_law_320 rfl (lv_at hl 3 rfl) ?_
  refine lw_arg (k := 1) hx hb hX hbl hS hL (by omega) (lv_at hl 4 rfl) (lv_at hl 0 rfl) (by decide) dL_law_321 dL_law_322 dL_law_324 dL_law_325 dL_law_326 ?_
  refine lw_arg (k := 2) hx hb hX hbl hS hL (by omega) (lv_at hl 4 rfl) (lv_at hl 0 rfl) (by decide) dL_law_327 dL_law_328 dL_law_330 dL_law_331 dL_law_332 ?_
  have hτ := lw_qV (X := fun E => (E, cd12 E) ∈ cdl_relabel) (cdl := cdl_relabel) (op_relabel (x1 := xs (i + 1)) (x2 := xs (i + 2)) hJ) (tw_X5_relabel (by decide) (by decide)) (fun E h => h) tw_X6_relabel kp_X6_relabel
  have hoks : ab_oks ad [.inr (0, 0), .inl (xs (i + 1)), .inl (xs (i + 2))] := by
    intro v hv
    simp only [List.mem_cons, List.not_mem_nil, or_false] at hv
    rcases hv with rfl | rfl | rfl
    · exact h00
    · exact trivial
    · exact trivial
  refine va_calli (a := #[]) (vx_runSW (R := room_1) (As := [.ref (ad (0, 0)), .int (xs (i + 1)), .int (xs (i + 2))]) (rest := []) (g := F0 m 333 ls (([.ref (ad (0, 0)), .int (xs (i + 1)), .int (xs (i + 2))] : List Value).reverse ++ [])) ⟨hx, hb, hml, hown, hts⟩ (wr_relabel l hlt D ad s.heap.size cy sa _ _ S _ hτ) (vx_cwSW 3 hts gL_law_L_relabel rfl rfl rfl ⟨by decide +kernel, by decide +kernel, by decide +kernel⟩ (by decide)) ⟨wr_blind _ _ _ _ _ _ _, fun U hU hW => ⟨rfl, hoks, by rw [hU]; exact hS.1, by rw [hU]; exact hP, ab_Kn.warm hW (by rw [hU]; exact hS.2.1) hKn, hwK.moved hW.alike⟩⟩ rfl rfl hl.1 rfl (lv_room (Nat.le_of_ble_eq_true rfl)) dL_law_333 ⟨by show cells + 2 ≤ 600128; omega, by show slots + 12 ≤ 7301098; omega⟩) hS (fun q _ h => h) (fun q h => h) (fun r S1 t1 H1 locs1 ht1 _ hp1 hB1 _ _ hS1 => ?_)
  have hP1 : va_P D vwCl (ab_wl ad cy S1) H1 := by rw [← ht1]; exact hB1
  refine lv_istore hx hb dL_law_336 hl (by decide) rfl (fun ls1 hl1 => ?_)
  have hl1 : lv_has ls1 7 ((5, .int r) :: lw_lv b i ad) := hl1
  refine lv_aload_n hx hb dL_law_338 rfl (lv_at hl1 3 rfl) ?_
  refine lw_arg (k := 1) hx hb hX hbl hS1 hL (by omega) (lv_at hl1 5 rfl) (lv_at hl1 1 rfl) (by decide) dL_law_339 dL_law_340 dL_law_342 dL_law_343 dL_law_344 ?_
  refine lw_arg (k := 2) hx hb hX hbl hS1 hL (by omega) (lv_at hl1 5 rfl) (lv_at hl1 1 rfl) (by decide) dL_law_345 dL_law_346 dL_law_348 dL_law_349 dL_law_350 ?_
  unfold LQV at hp1
  have hrun := wr_run (R := room_1) (n := 2) (rest := []) (locs := locs1) (cells := cells + 2) (slots := slots + 12) (below := below) (e := e) (meth := meth) (ls := ls1) (pc := 351) hx hb hml hown hts hKn (Nat.le_refl _) (so_X6_relabel l) gL_law_X6_relabel (21, 0) rfl rfl ⟨by decide +kernel, by decide +kernel, by decide +kernel⟩ (by decide) h21 rfl [.inl (xs (i + 1)), .inl (xs (i + 2))] (by intro v hv; simp only [List.mem_cons, List.not_mem_nil, or_false] at hv; rcases hv with rfl | rfl <;> exact trivial) rfl (Nat.le_of_ble_eq_true rfl) hp1 hP1 hS1 hl1.1 dL_law_351 (by show cells + 2 + 0 ≤ 600128; omega) (by show slots + 12 + 0 ≤ 7301098; omega)
  refine vx_callv (a := #[]) (S := ab_S) (SX := ab_S × Nat) hrun hS1 (fun q _ h => h) (fun q h => h) (fun q _ h => h) (fun E ce q9 u t H1 locs1 ht _ hpx _ _ _ _ _ _ _ => absurd rfl (hpx.1 u.2)) (fun S2 t2 H2 locs2 ht2 _ hp2 hB2 _ _ hS2 => ?_)
  obtain ⟨-, hk41, hJ2, hth⟩ := hp2
  have hP2 : va_P D vwCl (ab_wl ad cy S2) H2 := by rw [← ht2]; exact hB2
  refine W.widen (k := cells + 4) (n := slots + 24) (by show cells + 2 + 0 ≤ cells + 4; omega) (by show slots + 12 + 0 ≤ slots + 24; omega) ?_
  exact lw_tailV C hl1 hP2 hS2 (by omega) (by omega) hth dL_law_354 dL_law_355 dL_law_358 dL_law_360 dL_law_365 (by decide) (fun H3 locs3 hP3 hS3 => kk H3 locs3 ls1 S2 (lv_sub hl1 [1, 2, 3, 4, 5] rfl) hP3 hS3 hJ2)
set_option maxRecDepth 20000 in
theorem lc_commit (C : LC p l s m meth c b L xs D ad cy sa) (hi : i + 3 < L) (hl : lv_has ls 7 (lw_lv b i ad)) (hP : va_P D vwCl (ab_wl ad cy S) H) (hS : va_S (ab_A s.heap.size) s.heap H locs) (hJ : Jv S) (hce : cells ≤ 2000) (hsl : slots ≤ 12000)
    (kk : ∀ (H1 : Heap) (locs1 : List Loc) (ls1 : Array Slot) (S1 : ab_S), lv_has ls1 7 (lw_lv b i ad) → va_P D vwCl (ab_wl ad cy S1) H1 → va_S (ab_A s.heap.size) s.heap H1 locs1 → Jv S1 → W p l e room_1 s m #[.ref b] below meth c H1 locs1 (cells + 4) (slots + 24) Q (F0 m 1146 ls1 [])) : W p l e room_1 s m #[.ref b] below meth c H locs cells slots Q (F0 m 368 ls []) := by
  obtain ⟨C0, hL, hlt, hKn, hwK, h00, h21, h41⟩ := id C
  obtain ⟨hx, hb, hr, hml, hown, hts0, hX, hbl, hlocks, hgv⟩ := id C0
  have hts : ∀ w ∈ wsL_law, w.before #[Value.ref b] s = true := fun w h => hts0 w (wsL_law_in w h)
  refine lv_aload_n hx hb dL_law_368 rfl (lv_at hl 3 rfl) ?_
  refine lv_aload_n hx hb dL_law_369 rfl (lv_at hl 1 rfl) ?_
  have hτ := lw_qI (X := fun E => (E, cd1 E) ∈ cdl_commit ∧ cd1 E ≠ 0) (cdl := cdl_commit) (op_commit  hJ) (tw_X5_commit (by decide)) (fun E h => h) tw_X6_commit kp_X6_commit
  have hoks : ab_oks ad [.inr (0, 0), .inr (41, 0)] := by
    intro v hv
    simp only [List.mem_cons, List.not_mem_nil, or_false] at hv
    rcases hv with rfl | rfl
    · exact h00
    · exact h41
  refine va_calli (a := #[]) (vx_runSW (R := room_1) (As := [.ref (ad (0, 0)), .ref (ad (41, 0))]) (rest := []) (g := F0 m 370 ls (([.ref (ad (0, 0)), .ref (ad (41, 0))] : List Value).reverse ++ [])) ⟨hx, hb, hml, hown, hts⟩ (wr_commit l hlt D ad s.heap.size cy sa S _ hτ) (vx_cwSW 2 hts gL_law_L_commit rfl rfl rfl ⟨by decide +kernel, by decide +kernel, by decide +kernel⟩ (by decide)) ⟨wr_blind _ _ _ _ _ _ _, fun U hU hW => ⟨rfl, hoks, by rw [hU]; exact hS.1, by rw [hU]; exact hP, ab_Kn.warm hW (by rw [hU]; exact hS.2.1) hKn, hwK.moved hW.alike⟩⟩ rfl rfl hl.1 rfl (lv_room (Nat.le_of_ble_eq_true rfl)) dL_law_370 ⟨by show cells + 1 ≤ 600128; omega, by show slots + 6 ≤ 7301098; omega⟩) hS (fun q _ h => h) (fun q h => h) (fun r S1 t1 H1 locs1 ht1 _ hp1 hB1 _ _ hS1 => ?_)
  have hP1 : va_P D vwCl (ab_wl ad cy S1) H1 := by rw [← ht1]; exact hB1
  refine lv_istore hx hb dL_law_373 hl (by decide) rfl (fun ls1 hl1 => ?_)
  have hl1 : lv_has ls1 7 ((5, .int r) :: lw_lv b i ad) := hl1
  refine lv_aload_n hx hb dL_law_375 rfl (lv_at hl1 3 rfl) ?_
  unfold LQI at hp1
  have hrun := wr_run (R := room_1) (n := 0) (rest := []) (locs := locs1) (cells := cells + 1) (slots := slots + 6) (below := below) (e := e) (meth := meth) (ls := ls1) (pc := 376) hx hb hml hown hts hKn (Nat.le_refl _) (so_X6_commit l) gL_law_X6_commit (21, 0) rfl rfl ⟨by decide +kernel, by decide +kernel, by decide +kernel⟩ (by decide) h21 rfl [] (fun v hv => absurd hv List.not_mem_nil) rfl (Nat.le_of_ble_eq_true rfl) hp1 hP1 hS1 hl1.1 dL_law_376 (by show cells + 1 + 0 ≤ 600128; omega) (by show slots + 6 + 0 ≤ 7301098; omega)
  refine vx_calli (a := #[]) (S := ab_S) (SX := ab_S × Nat) hrun hS1 (fun q _ h => h) (fun q h => h) (fun q _ h => h) (fun E ce q9 u t H1 locs1 ht _ hpx _ _ _ _ _ _ _ => absurd rfl (hpx.1 u.2)) (fun r6 S2 t2 H2 locs2 ht2 _ hp2 hB2 _ _ hS2 => ?_)
  obtain ⟨-, hk41, hJ2, hth, hval⟩ := hp2
  have hP2 : va_P D vwCl (ab_wl ad cy S2) H2 := by rw [← ht2]; exact hB2
  refine W.widen (k := cells + 4) (n := slots + 24) (by show cells + 1 + 0 ≤ cells + 4; omega) (by show slots + 6 + 0 ≤ slots + 24; omega) ?_
  refine lv_istore hx hb dL_law_379 hl1 (by decide) rfl (fun ls2 hl2 => ?_)
  have hl2 : lv_has ls2 7 ((6, .int r6) :: (5, .int r) :: lw_lv b i ad) := hl2
  have hv : r = 0 → r6 = S2 41 0 0 := fun z => by
    have := hval z
    rw [hk41]
    cases this
    rfl
  exact lw_tailI C hl2 hP2 hS2 (by omega) (by omega) hth hv dL_law_381 dL_law_382 dL_law_385 dL_law_387 dL_law_392 dL_law_394 dL_law_397 dL_law_398 dL_law_399 dL_law_400 dL_law_402 dL_law_403 dL_law_404 dL_law_409 (by decide) (fun H3 locs3 hP3 hS3 => kk H3 locs3 ls2 S2 (lv_sub hl2 [2, 3, 4, 5, 6] rfl) hP3 hS3 hJ2)
set_option maxRecDepth 20000 in
theorem lc_checkout (C : LC p l s m meth c b L xs D ad cy sa) (hi : i + 3 < L) (hl : lv_has ls 7 (lw_lv b i ad)) (hP : va_P D vwCl (ab_wl ad cy S) H) (hS : va_S (ab_A s.heap.size) s.heap H locs) (hJ : Jv S) (hce : cells ≤ 2000) (hsl : slots ≤ 12000)
    (kk : ∀ (H1 : Heap) (locs1 : List Loc) (ls1 : Array Slot) (S1 : ab_S), lv_has ls1 7 (lw_lv b i ad) → va_P D vwCl (ab_wl ad cy S1) H1 → va_S (ab_A s.heap.size) s.heap H1 locs1 → Jv S1 → W p l e room_1 s m #[.ref b] below meth c H1 locs1 (cells + 4) (slots + 24) Q (F0 m 1146 ls1 [])) : W p l e room_1 s m #[.ref b] below meth c H locs cells slots Q (F0 m 412 ls []) := by
  obtain ⟨C0, hL, hlt, hKn, hwK, h00, h21, h41⟩ := id C
  obtain ⟨hx, hb, hr, hml, hown, hts0, hX, hbl, hlocks, hgv⟩ := id C0
  have hts : ∀ w ∈ wsL_law, w.before #[Value.ref b] s = true := fun w h => hts0 w (wsL_law_in w h)
  refine lv_aload_n hx hb dL_law_412 rfl (lv_at hl 3 rfl) ?_
  refine lw_arg (k := 1) hx hb hX hbl hS hL (by omega) (lv_at hl 4 rfl) (lv_at hl 0 rfl) (by decide) dL_law_413 dL_law_414 dL_law_416 dL_law_417 dL_law_418 ?_
  have hτ := lw_qV (X := fun E => (E, cd1 E) ∈ cdl_checkout) (cdl := cdl_checkout) (op_checkout (x1 := xs (i + 1)) hJ) (tw_X5_checkout (by decide)) (fun E h => h) tw_X6_checkout kp_X6_checkout
  have hoks : ab_oks ad [.inr (0, 0), .inl (xs (i + 1))] := by
    intro v hv
    simp only [List.mem_cons, List.not_mem_nil, or_false] at hv
    rcases hv with rfl | rfl
    · exact h00
    · exact trivial
  refine va_calli (a := #[]) (vx_runSW (R := room_1) (As := [.ref (ad (0, 0)), .int (xs (i + 1))]) (rest := []) (g := F0 m 419 ls (([.ref (ad (0, 0)), .int (xs (i + 1))] : List Value).reverse ++ [])) ⟨hx, hb, hml, hown, hts⟩ (wr_checkout l hlt D ad s.heap.size cy sa _ S _ hτ) (vx_cwSW 2 hts gL_law_L_checkout rfl rfl rfl ⟨by decide +kernel, by decide +kernel, by decide +kernel⟩ (by decide)) ⟨wr_blind _ _ _ _ _ _ _, fun U hU hW => ⟨rfl, hoks, by rw [hU]; exact hS.1, by rw [hU]; exact hP, ab_Kn.warm hW (by rw [hU]; exact hS.2.1) hKn, hwK.moved hW.alike⟩⟩ rfl rfl hl.1 rfl (lv_room (Nat.le_of_ble_eq_true rfl)) dL_law_419 ⟨by show cells + 1 ≤ 600128; omega, by show slots + 6 ≤ 7301098; omega⟩) hS (fun q _ h => h) (fun q h => h) (fun r S1 t1 H1 locs1 ht1 _ hp1 hB1 _ _ hS1 => ?_)
  have hP1 : va_P D vwCl (ab_wl ad cy S1) H1 := by rw [← ht1]; exact hB1
  refine lv_istore hx hb dL_law_422 hl (by decide) rfl (fun ls1 hl1 => ?_)
  have hl1 : lv_has ls1 7 ((5, .int r) :: lw_lv b i ad) := hl1
  refine lv_aload_n hx hb dL_law_424 rfl (lv_at hl1 3 rfl) ?_
  refine lw_arg (k := 1) hx hb hX hbl hS1 hL (by omega) (lv_at hl1 5 rfl) (lv_at hl1 1 rfl) (by decide) dL_law_425 dL_law_426 dL_law_428 dL_law_429 dL_law_430 ?_
  unfold LQV at hp1
  have hrun := wr_run (R := room_1) (n := 1) (rest := []) (locs := locs1) (cells := cells + 1) (slots := slots + 6) (below := below) (e := e) (meth := meth) (ls := ls1) (pc := 431) hx hb hml hown hts hKn (Nat.le_refl _) (so_X6_checkout l) gL_law_X6_checkout (21, 0) rfl rfl ⟨by decide +kernel, by decide +kernel, by decide +kernel⟩ (by decide) h21 rfl [.inl (xs (i + 1))] (by intro v hv; simp only [List.mem_cons, List.not_mem_nil, or_false] at hv; rcases hv with rfl <;> exact trivial) rfl (Nat.le_of_ble_eq_true rfl) hp1 hP1 hS1 hl1.1 dL_law_431 (by show cells + 1 + 0 ≤ 600128; omega) (by show slots + 6 + 0 ≤ 7301098; omega)
  refine vx_callv (a := #[]) (S := ab_S) (SX := ab_S × Nat) hrun hS1 (fun q _ h => h) (fun q h => h) (fun q _ h => h) (fun E ce q9 u t H1 locs1 ht _ hpx _ _ _ _ _ _ _ => absurd rfl (hpx.1 u.2)) (fun S2 t2 H2 locs2 ht2 _ hp2 hB2 _ _ hS2 => ?_)
  obtain ⟨-, hk41, hJ2, hth⟩ := hp2
  have hP2 : va_P D vwCl (ab_wl ad cy S2) H2 := by rw [← ht2]; exact hB2
  refine W.widen (k := cells + 4) (n := slots + 24) (by show cells + 1 + 0 ≤ cells + 4; omega) (by show slots + 6 + 0 ≤ slots + 24; omega) ?_
  exact lw_tailV C hl1 hP2 hS2 (by omega) (by omega) hth dL_law_434 dL_law_435 dL_law_438 dL_law_440 dL_law_445 (by decide) (fun H3 locs3 hP3 hS3 => kk H3 locs3 ls1 S2 (lv_sub hl1 [1, 2, 3, 4, 5] rfl) hP3 hS3 hJ2)
set_option maxRecDepth 20000 in
theorem lc_base (C : LC p l s m meth c b L xs D ad cy sa) (hi : i + 3 < L) (hl : lv_has ls 7 (lw_lv b i ad)) (hP : va_P D vwCl (ab_wl ad cy S) H) (hS : va_S (ab_A s.heap.size) s.heap H locs) (hJ : Jv S) (hce : cells ≤ 2000) (hsl : slots ≤ 12000)
    (kk : ∀ (H1 : Heap) (locs1 : List Loc) (ls1 : Array Slot) (S1 : ab_S), lv_has ls1 7 (lw_lv b i ad) → va_P D vwCl (ab_wl ad cy S1) H1 → va_S (ab_A s.heap.size) s.heap H1 locs1 → Jv S1 → W p l e room_1 s m #[.ref b] below meth c H1 locs1 (cells + 4) (slots + 24) Q (F0 m 1146 ls1 [])) : W p l e room_1 s m #[.ref b] below meth c H locs cells slots Q (F0 m 448 ls []) := by
  obtain ⟨C0, hL, hlt, hKn, hwK, h00, h21, h41⟩ := id C
  obtain ⟨hx, hb, hr, hml, hown, hts0, hX, hbl, hlocks, hgv⟩ := id C0
  have hts : ∀ w ∈ wsL_law, w.before #[Value.ref b] s = true := fun w h => hts0 w (wsL_law_in w h)
  refine lv_aload_n hx hb dL_law_448 rfl (lv_at hl 3 rfl) ?_
  refine lw_arg (k := 1) hx hb hX hbl hS hL (by omega) (lv_at hl 4 rfl) (lv_at hl 0 rfl) (by decide) dL_law_449 dL_law_450 dL_law_452 dL_law_453 dL_law_454 ?_
  refine lw_arg (k := 2) hx hb hX hbl hS hL (by omega) (lv_at hl 4 rfl) (lv_at hl 0 rfl) (by decide) dL_law_455 dL_law_456 dL_law_458 dL_law_459 dL_law_460 ?_
  refine lv_aload_n hx hb dL_law_461 rfl (lv_at hl 1 rfl) ?_
  have hτ := lw_qI (X := fun E => (E, cd1 E) ∈ cdl_base ∧ cd1 E ≠ 0) (cdl := cdl_base) (op_base (x1 := xs (i + 1)) (x2 := xs (i + 2)) hJ) (tw_X5_base (by decide)) (fun E h => h) tw_X6_base kp_X6_base
  have hoks : ab_oks ad [.inr (0, 0), .inl (xs (i + 1)), .inl (xs (i + 2)), .inr (41, 0)] := by
    intro v hv
    simp only [List.mem_cons, List.not_mem_nil, or_false] at hv
    rcases hv with rfl | rfl | rfl | rfl
    · exact h00
    · exact trivial
    · exact trivial
    · exact h41
  refine va_calli (a := #[]) (vx_runSW (R := room_1) (As := [.ref (ad (0, 0)), .int (xs (i + 1)), .int (xs (i + 2)), .ref (ad (41, 0))]) (rest := []) (g := F0 m 462 ls (([.ref (ad (0, 0)), .int (xs (i + 1)), .int (xs (i + 2)), .ref (ad (41, 0))] : List Value).reverse ++ [])) ⟨hx, hb, hml, hown, hts⟩ (wr_base l hlt D ad s.heap.size cy sa _ _ S _ hτ) (vx_cwSW 4 hts gL_law_L_base rfl rfl rfl ⟨by decide +kernel, by decide +kernel, by decide +kernel⟩ (by decide)) ⟨wr_blind _ _ _ _ _ _ _, fun U hU hW => ⟨rfl, hoks, by rw [hU]; exact hS.1, by rw [hU]; exact hP, ab_Kn.warm hW (by rw [hU]; exact hS.2.1) hKn, hwK.moved hW.alike⟩⟩ rfl rfl hl.1 rfl (lv_room (Nat.le_of_ble_eq_true rfl)) dL_law_462 ⟨by show cells + 2 ≤ 600128; omega, by show slots + 12 ≤ 7301098; omega⟩) hS (fun q _ h => h) (fun q h => h) (fun r S1 t1 H1 locs1 ht1 _ hp1 hB1 _ _ hS1 => ?_)
  have hP1 : va_P D vwCl (ab_wl ad cy S1) H1 := by rw [← ht1]; exact hB1
  refine lv_istore hx hb dL_law_465 hl (by decide) rfl (fun ls1 hl1 => ?_)
  have hl1 : lv_has ls1 7 ((5, .int r) :: lw_lv b i ad) := hl1
  refine lv_aload_n hx hb dL_law_467 rfl (lv_at hl1 3 rfl) ?_
  refine lw_arg (k := 1) hx hb hX hbl hS1 hL (by omega) (lv_at hl1 5 rfl) (lv_at hl1 1 rfl) (by decide) dL_law_468 dL_law_469 dL_law_471 dL_law_472 dL_law_473 ?_
  refine lw_arg (k := 2) hx hb hX hbl hS1 hL (by omega) (lv_at hl1 5 rfl) (lv_at hl1 1 rfl) (by decide) dL_law_474 dL_law_475 dL_law_477 dL_law_478 dL_law_479 ?_
  unfold LQI at hp1
  have hrun := wr_run (R := room_1) (n := 2) (rest := []) (locs := locs1) (cells := cells + 2) (slots := slots + 12) (below := below) (e := e) (meth := meth) (ls := ls1) (pc := 480) hx hb hml hown hts hKn (Nat.le_refl _) (so_X6_base l) gL_law_X6_base (21, 0) rfl rfl ⟨by decide +kernel, by decide +kernel, by decide +kernel⟩ (by decide) h21 rfl [.inl (xs (i + 1)), .inl (xs (i + 2))] (by intro v hv; simp only [List.mem_cons, List.not_mem_nil, or_false] at hv; rcases hv with rfl | rfl <;> exact trivial) rfl (Nat.le_of_ble_eq_true rfl) hp1 hP1 hS1 hl1.1 dL_law_480 (by show cells + 2 + 0 ≤ 600128; omega) (by show slots + 12 + 0 ≤ 7301098; omega)
  refine vx_calli (a := #[]) (S := ab_S) (SX := ab_S × Nat) hrun hS1 (fun q _ h => h) (fun q h => h) (fun q _ h => h) (fun E ce q9 u t H1 locs1 ht _ hpx _ _ _ _ _ _ _ => absurd rfl (hpx.1 u.2)) (fun r6 S2 t2 H2 locs2 ht2 _ hp2 hB2 _ _ hS2 => ?_)
  obtain ⟨-, hk41, hJ2, hth, hval⟩ := hp2
  have hP2 : va_P D vwCl (ab_wl ad cy S2) H2 := by rw [← ht2]; exact hB2
  refine W.widen (k := cells + 4) (n := slots + 24) (by show cells + 2 + 0 ≤ cells + 4; omega) (by show slots + 12 + 0 ≤ slots + 24; omega) ?_
  refine lv_istore hx hb dL_law_483 hl1 (by decide) rfl (fun ls2 hl2 => ?_)
  have hl2 : lv_has ls2 7 ((6, .int r6) :: (5, .int r) :: lw_lv b i ad) := hl2
  have hv : r = 0 → r6 = S2 41 0 0 := fun z => by
    have := hval z
    rw [hk41]
    cases this
    rfl
  exact lw_tailI C hl2 hP2 hS2 (by omega) (by omega) hth hv dL_law_485 dL_law_486 dL_law_489 dL_law_491 dL_law_496 dL_law_498 dL_law_501 dL_law_502 dL_law_503 dL_law_504 dL_law_506 dL_law_507 dL_law_508 dL_law_513 (by decide) (fun H3 locs3 hP3 hS3 => kk H3 locs3 ls2 S2 (lv_sub hl2 [2, 3, 4, 5, 6] rfl) hP3 hS3 hJ2)
set_option maxRecDepth 20000 in
theorem lc_merge (C : LC p l s m meth c b L xs D ad cy sa) (hi : i + 3 < L) (hl : lv_has ls 7 (lw_lv b i ad)) (hP : va_P D vwCl (ab_wl ad cy S) H) (hS : va_S (ab_A s.heap.size) s.heap H locs) (hJ : Jv S) (hce : cells ≤ 2000) (hsl : slots ≤ 12000)
    (kk : ∀ (H1 : Heap) (locs1 : List Loc) (ls1 : Array Slot) (S1 : ab_S), lv_has ls1 7 (lw_lv b i ad) → va_P D vwCl (ab_wl ad cy S1) H1 → va_S (ab_A s.heap.size) s.heap H1 locs1 → Jv S1 → W p l e room_1 s m #[.ref b] below meth c H1 locs1 (cells + 4) (slots + 24) Q (F0 m 1146 ls1 [])) : W p l e room_1 s m #[.ref b] below meth c H locs cells slots Q (F0 m 516 ls []) := by
  obtain ⟨C0, hL, hlt, hKn, hwK, h00, h21, h41⟩ := id C
  obtain ⟨hx, hb, hr, hml, hown, hts0, hX, hbl, hlocks, hgv⟩ := id C0
  have hts : ∀ w ∈ wsL_law, w.before #[Value.ref b] s = true := fun w h => hts0 w (wsL_law_in w h)
  refine lv_aload_n hx hb dL_law_516 rfl (lv_at hl 3 rfl) ?_
  refine lw_arg (k := 1) hx hb hX hbl hS hL (by omega) (lv_at hl 4 rfl) (lv_at hl 0 rfl) (by decide) dL_law_517 dL_law_518 dL_law_520 dL_law_521 dL_law_522 ?_
  refine lv_aload_n hx hb dL_law_523 rfl (lv_at hl 1 rfl) ?_
  have hτ := lw_qI (X := fun E => (E, cd12 E) ∈ cdl_merge ∧ cd12 E ≠ 0) (cdl := cdl_merge) (op_merge (x1 := xs (i + 1)) hJ) (tw_X5_merge (by decide) (by decide)) (fun E h => h) tw_X6_merge kp_X6_merge
  have hoks : ab_oks ad [.inr (0, 0), .inl (xs (i + 1)), .inr (41, 0)] := by
    intro v hv
    simp only [List.mem_cons, List.not_mem_nil, or_false] at hv
    rcases hv with rfl | rfl | rfl
    · exact h00
    · exact trivial
    · exact h41
  refine va_calli (a := #[]) (vx_runSW (R := room_1) (As := [.ref (ad (0, 0)), .int (xs (i + 1)), .ref (ad (41, 0))]) (rest := []) (g := F0 m 524 ls (([.ref (ad (0, 0)), .int (xs (i + 1)), .ref (ad (41, 0))] : List Value).reverse ++ [])) ⟨hx, hb, hml, hown, hts⟩ (wr_merge l hlt D ad s.heap.size cy sa _ S _ hτ) (vx_cwSW 3 hts gL_law_L_merge rfl rfl rfl ⟨by decide +kernel, by decide +kernel, by decide +kernel⟩ (by decide)) ⟨wr_blind _ _ _ _ _ _ _, fun U hU hW => ⟨rfl, hoks, by rw [hU]; exact hS.1, by rw [hU]; exact hP, ab_Kn.warm hW (by rw [hU]; exact hS.2.1) hKn, hwK.moved hW.alike⟩⟩ rfl rfl hl.1 rfl (lv_room (Nat.le_of_ble_eq_true rfl)) dL_law_524 ⟨by show cells + 2 ≤ 600128; omega, by show slots + 12 ≤ 7301098; omega⟩) hS (fun q _ h => h) (fun q h => h) (fun r S1 t1 H1 locs1 ht1 _ hp1 hB1 _ _ hS1 => ?_)
  have hP1 : va_P D vwCl (ab_wl ad cy S1) H1 := by rw [← ht1]; exact hB1
  refine lv_istore hx hb dL_law_527 hl (by decide) rfl (fun ls1 hl1 => ?_)
  have hl1 : lv_has ls1 7 ((5, .int r) :: lw_lv b i ad) := hl1
  refine lv_aload_n hx hb dL_law_529 rfl (lv_at hl1 3 rfl) ?_
  refine lw_arg (k := 1) hx hb hX hbl hS1 hL (by omega) (lv_at hl1 5 rfl) (lv_at hl1 1 rfl) (by decide) dL_law_530 dL_law_531 dL_law_533 dL_law_534 dL_law_535 ?_
  unfold LQI at hp1
  have hrun := wr_run (R := room_1) (n := 1) (rest := []) (locs := locs1) (cells := cells + 2) (slots := slots + 12) (below := below) (e := e) (meth := meth) (ls := ls1) (pc := 536) hx hb hml hown hts hKn (Nat.le_refl _) (so_X6_merge l) gL_law_X6_merge (21, 0) rfl rfl ⟨by decide +kernel, by decide +kernel, by decide +kernel⟩ (by decide) h21 rfl [.inl (xs (i + 1))] (by intro v hv; simp only [List.mem_cons, List.not_mem_nil, or_false] at hv; rcases hv with rfl <;> exact trivial) rfl (Nat.le_of_ble_eq_true rfl) hp1 hP1 hS1 hl1.1 dL_law_536 (by show cells + 2 + 0 ≤ 600128; omega) (by show slots + 12 + 0 ≤ 7301098; omega)
  refine vx_calli (a := #[]) (S := ab_S) (SX := ab_S × Nat) hrun hS1 (fun q _ h => h) (fun q h => h) (fun q _ h => h) (fun E ce q9 u t H1 locs1 ht _ hpx _ _ _ _ _ _ _ => absurd rfl (hpx.1 u.2)) (fun r6 S2 t2 H2 locs2 ht2 _ hp2 hB2 _ _ hS2 => ?_)
  obtain ⟨-, hk41, hJ2, hth, hval⟩ := hp2
  have hP2 : va_P D vwCl (ab_wl ad cy S2) H2 := by rw [← ht2]; exact hB2
  refine W.widen (k := cells + 4) (n := slots + 24) (by show cells + 2 + 0 ≤ cells + 4; omega) (by show slots + 12 + 0 ≤ slots + 24; omega) ?_
  refine lv_istore hx hb dL_law_539 hl1 (by decide) rfl (fun ls2 hl2 => ?_)
  have hl2 : lv_has ls2 7 ((6, .int r6) :: (5, .int r) :: lw_lv b i ad) := hl2
  have hv : r = 0 → r6 = S2 41 0 0 := fun z => by
    have := hval z
    rw [hk41]
    cases this
    rfl
  exact lw_tailI C hl2 hP2 hS2 (by omega) (by omega) hth hv dL_law_541 dL_law_542 dL_law_545 dL_law_547 dL_law_552 dL_law_554 dL_law_557 dL_law_558 dL_law_559 dL_law_560 dL_law_562 dL_law_563 dL_law_564 dL_law_569 (by decide) (fun H3 locs3 hP3 hS3 => kk H3 locs3 ls2 S2 (lv_sub hl2 [2, 3, 4, 5, 6] rfl) hP3 hS3 hJ2)
set_option maxRecDepth 20000 in
theorem lc_conflict (C : LC p l s m meth c b L xs D ad cy sa) (hi : i + 3 < L) (hl : lv_has ls 7 (lw_lv b i ad)) (hP : va_P D vwCl (ab_wl ad cy S) H) (hS : va_S (ab_A s.heap.size) s.heap H locs) (hJ : Jv S) (hce : cells ≤ 2000) (hsl : slots ≤ 12000)
    (kk : ∀ (H1 : Heap) (locs1 : List Loc) (ls1 : Array Slot) (S1 : ab_S), lv_has ls1 7 (lw_lv b i ad) → va_P D vwCl (ab_wl ad cy S1) H1 → va_S (ab_A s.heap.size) s.heap H1 locs1 → Jv S1 → W p l e room_1 s m #[.ref b] below meth c H1 locs1 (cells + 4) (slots + 24) Q (F0 m 1146 ls1 [])) : W p l e room_1 s m #[.ref b] below meth c H locs cells slots Q (F0 m 572 ls []) := by
  obtain ⟨C0, hL, hlt, hKn, hwK, h00, h21, h41⟩ := id C
  obtain ⟨hx, hb, hr, hml, hown, hts0, hX, hbl, hlocks, hgv⟩ := id C0
  have hts : ∀ w ∈ wsL_law, w.before #[Value.ref b] s = true := fun w h => hts0 w (wsL_law_in w h)
  refine lv_aload_n hx hb dL_law_572 rfl (lv_at hl 3 rfl) ?_
  refine lw_arg (k := 1) hx hb hX hbl hS hL (by omega) (lv_at hl 4 rfl) (lv_at hl 0 rfl) (by decide) dL_law_573 dL_law_574 dL_law_576 dL_law_577 dL_law_578 ?_
  refine lv_aload_n hx hb dL_law_579 rfl (lv_at hl 1 rfl) ?_
  have hτ := lw_qI (X := fun E => (E, cd1 E) ∈ cdl_conflict ∧ cd1 E ≠ 0) (cdl := cdl_conflict) (op_conflict (x1 := xs (i + 1)) hJ) (tw_X5_conflict (by decide)) (fun E h => h) tw_X6_conflict kp_X6_conflict
  have hoks : ab_oks ad [.inr (0, 0), .inl (xs (i + 1)), .inr (41, 0)] := by
    intro v hv
    simp only [List.mem_cons, List.not_mem_nil, or_false] at hv
    rcases hv with rfl | rfl | rfl
    · exact h00
    · exact trivial
    · exact h41
  refine va_calli (a := #[]) (vx_runSW (R := room_1) (As := [.ref (ad (0, 0)), .int (xs (i + 1)), .ref (ad (41, 0))]) (rest := []) (g := F0 m 580 ls (([.ref (ad (0, 0)), .int (xs (i + 1)), .ref (ad (41, 0))] : List Value).reverse ++ [])) ⟨hx, hb, hml, hown, hts⟩ (wr_conflict l hlt D ad s.heap.size cy sa _ S _ hτ) (vx_cwSW 3 hts gL_law_L_conflict rfl rfl rfl ⟨by decide +kernel, by decide +kernel, by decide +kernel⟩ (by decide)) ⟨wr_blind _ _ _ _ _ _ _, fun U hU hW => ⟨rfl, hoks, by rw [hU]; exact hS.1, by rw [hU]; exact hP, ab_Kn.warm hW (by rw [hU]; exact hS.2.1) hKn, hwK.moved hW.alike⟩⟩ rfl rfl hl.1 rfl (lv_room (Nat.le_of_ble_eq_true rfl)) dL_law_580 ⟨by show cells + 1 ≤ 600128; omega, by show slots + 6 ≤ 7301098; omega⟩) hS (fun q _ h => h) (fun q h => h) (fun r S1 t1 H1 locs1 ht1 _ hp1 hB1 _ _ hS1 => ?_)
  have hP1 : va_P D vwCl (ab_wl ad cy S1) H1 := by rw [← ht1]; exact hB1
  refine lv_istore hx hb dL_law_583 hl (by decide) rfl (fun ls1 hl1 => ?_)
  have hl1 : lv_has ls1 7 ((5, .int r) :: lw_lv b i ad) := hl1
  refine lv_aload_n hx hb dL_law_585 rfl (lv_at hl1 3 rfl) ?_
  refine lw_arg (k := 1) hx hb hX hbl hS1 hL (by omega) (lv_at hl1 5 rfl) (lv_at hl1 1 rfl) (by decide) dL_law_586 dL_law_587 dL_law_589 dL_law_590 dL_law_591 ?_
  unfold LQI at hp1
  have hrun := wr_run (R := room_1) (n := 1) (rest := []) (locs := locs1) (cells := cells + 1) (slots := slots + 6) (below := below) (e := e) (meth := meth) (ls := ls1) (pc := 592) hx hb hml hown hts hKn (Nat.le_refl _) (so_X6_conflict l) gL_law_X6_conflict (21, 0) rfl rfl ⟨by decide +kernel, by decide +kernel, by decide +kernel⟩ (by decide) h21 rfl [.inl (xs (i + 1))] (by intro v hv; simp only [List.mem_cons, List.not_mem_nil, or_false] at hv; rcases hv with rfl <;> exact trivial) rfl (Nat.le_of_ble_eq_true rfl) hp1 hP1 hS1 hl1.1 dL_law_592 (by show cells + 1 + 0 ≤ 600128; omega) (by show slots + 6 + 0 ≤ 7301098; omega)
  refine vx_calli (a := #[]) (S := ab_S) (SX := ab_S × Nat) hrun hS1 (fun q _ h => h) (fun q h => h) (fun q _ h => h) (fun E ce q9 u t H1 locs1 ht _ hpx _ _ _ _ _ _ _ => absurd rfl (hpx.1 u.2)) (fun r6 S2 t2 H2 locs2 ht2 _ hp2 hB2 _ _ hS2 => ?_)
  obtain ⟨-, hk41, hJ2, hth, hval⟩ := hp2
  have hP2 : va_P D vwCl (ab_wl ad cy S2) H2 := by rw [← ht2]; exact hB2
  refine W.widen (k := cells + 4) (n := slots + 24) (by show cells + 1 + 0 ≤ cells + 4; omega) (by show slots + 6 + 0 ≤ slots + 24; omega) ?_
  refine lv_istore hx hb dL_law_595 hl1 (by decide) rfl (fun ls2 hl2 => ?_)
  have hl2 : lv_has ls2 7 ((6, .int r6) :: (5, .int r) :: lw_lv b i ad) := hl2
  have hv : r = 0 → r6 = S2 41 0 0 := fun z => by
    have := hval z
    rw [hk41]
    cases this
    rfl
  exact lw_tailI C hl2 hP2 hS2 (by omega) (by omega) hth hv dL_law_597 dL_law_598 dL_law_601 dL_law_603 dL_law_608 dL_law_610 dL_law_613 dL_law_614 dL_law_615 dL_law_616 dL_law_618 dL_law_619 dL_law_620 dL_law_625 (by decide) (fun H3 locs3 hP3 hS3 => kk H3 locs3 ls2 S2 (lv_sub hl2 [2, 3, 4, 5, 6] rfl) hP3 hS3 hJ2)
set_option maxRecDepth 20000 in
theorem lc_about (C : LC p l s m meth c b L xs D ad cy sa) (hi : i + 3 < L) (hl : lv_has ls 7 (lw_lv b i ad)) (hP : va_P D vwCl (ab_wl ad cy S) H) (hS : va_S (ab_A s.heap.size) s.heap H locs) (hJ : Jv S) (hce : cells ≤ 2000) (hsl : slots ≤ 12000)
    (kk : ∀ (H1 : Heap) (locs1 : List Loc) (ls1 : Array Slot) (S1 : ab_S), lv_has ls1 7 (lw_lv b i ad) → va_P D vwCl (ab_wl ad cy S1) H1 → va_S (ab_A s.heap.size) s.heap H1 locs1 → Jv S1 → W p l e room_1 s m #[.ref b] below meth c H1 locs1 (cells + 4) (slots + 24) Q (F0 m 1146 ls1 [])) : W p l e room_1 s m #[.ref b] below meth c H locs cells slots Q (F0 m 628 ls []) := by
  obtain ⟨C0, hL, hlt, hKn, hwK, h00, h21, h41⟩ := id C
  obtain ⟨hx, hb, hr, hml, hown, hts0, hX, hbl, hlocks, hgv⟩ := id C0
  have hts : ∀ w ∈ wsL_law, w.before #[Value.ref b] s = true := fun w h => hts0 w (wsL_law_in w h)
  refine lv_aload_n hx hb dL_law_628 rfl (lv_at hl 3 rfl) ?_
  refine lw_arg (k := 1) hx hb hX hbl hS hL (by omega) (lv_at hl 4 rfl) (lv_at hl 0 rfl) (by decide) dL_law_629 dL_law_630 dL_law_632 dL_law_633 dL_law_634 ?_
  refine lw_arg (k := 2) hx hb hX hbl hS hL (by omega) (lv_at hl 4 rfl) (lv_at hl 0 rfl) (by decide) dL_law_635 dL_law_636 dL_law_638 dL_law_639 dL_law_640 ?_
  refine lv_aload_n hx hb dL_law_641 rfl (lv_at hl 1 rfl) ?_
  have hτ := lw_qI (X := fun E => (E, cd12 E) ∈ cdl_about ∧ cd12 E ≠ 0) (cdl := cdl_about) (op_about (x1 := xs (i + 1)) (x2 := xs (i + 2)) hJ) (tw_X5_about (by decide) (by decide)) (fun E h => h) tw_X6_about kp_X6_about
  have hoks : ab_oks ad [.inr (0, 0), .inl (xs (i + 1)), .inl (xs (i + 2)), .inr (41, 0)] := by
    intro v hv
    simp only [List.mem_cons, List.not_mem_nil, or_false] at hv
    rcases hv with rfl | rfl | rfl | rfl
    · exact h00
    · exact trivial
    · exact trivial
    · exact h41
  refine va_calli (a := #[]) (vx_runSW (R := room_1) (As := [.ref (ad (0, 0)), .int (xs (i + 1)), .int (xs (i + 2)), .ref (ad (41, 0))]) (rest := []) (g := F0 m 642 ls (([.ref (ad (0, 0)), .int (xs (i + 1)), .int (xs (i + 2)), .ref (ad (41, 0))] : List Value).reverse ++ [])) ⟨hx, hb, hml, hown, hts⟩ (wr_about l hlt D ad s.heap.size cy sa _ _ S _ hτ) (vx_cwSW 4 hts gL_law_L_about rfl rfl rfl ⟨by decide +kernel, by decide +kernel, by decide +kernel⟩ (by decide)) ⟨wr_blind _ _ _ _ _ _ _, fun U hU hW => ⟨rfl, hoks, by rw [hU]; exact hS.1, by rw [hU]; exact hP, ab_Kn.warm hW (by rw [hU]; exact hS.2.1) hKn, hwK.moved hW.alike⟩⟩ rfl rfl hl.1 rfl (lv_room (Nat.le_of_ble_eq_true rfl)) dL_law_642 ⟨by show cells + 2 ≤ 600128; omega, by show slots + 12 ≤ 7301098; omega⟩) hS (fun q _ h => h) (fun q h => h) (fun r S1 t1 H1 locs1 ht1 _ hp1 hB1 _ _ hS1 => ?_)
  have hP1 : va_P D vwCl (ab_wl ad cy S1) H1 := by rw [← ht1]; exact hB1
  refine lv_istore hx hb dL_law_645 hl (by decide) rfl (fun ls1 hl1 => ?_)
  have hl1 : lv_has ls1 7 ((5, .int r) :: lw_lv b i ad) := hl1
  refine lv_aload_n hx hb dL_law_647 rfl (lv_at hl1 3 rfl) ?_
  refine lw_arg (k := 1) hx hb hX hbl hS1 hL (by omega) (lv_at hl1 5 rfl) (lv_at hl1 1 rfl) (by decide) dL_law_648 dL_law_649 dL_law_651 dL_law_652 dL_law_653 ?_
  refine lw_arg (k := 2) hx hb hX hbl hS1 hL (by omega) (lv_at hl1 5 rfl) (lv_at hl1 1 rfl) (by decide) dL_law_654 dL_law_655 dL_law_657 dL_law_658 dL_law_659 ?_
  unfold LQI at hp1
  have hrun := wr_run (R := room_1) (n := 2) (rest := []) (locs := locs1) (cells := cells + 2) (slots := slots + 12) (below := below) (e := e) (meth := meth) (ls := ls1) (pc := 660) hx hb hml hown hts hKn (Nat.le_refl _) (so_X6_about l) gL_law_X6_about (21, 0) rfl rfl ⟨by decide +kernel, by decide +kernel, by decide +kernel⟩ (by decide) h21 rfl [.inl (xs (i + 1)), .inl (xs (i + 2))] (by intro v hv; simp only [List.mem_cons, List.not_mem_nil, or_false] at hv; rcases hv with rfl | rfl <;> exact trivial) rfl (Nat.le_of_ble_eq_true rfl) hp1 hP1 hS1 hl1.1 dL_law_660 (by show cells + 2 + 0 ≤ 600128; omega) (by show slots + 12 + 0 ≤ 7301098; omega)
  refine vx_calli (a := #[]) (S := ab_S) (SX := ab_S × Nat) hrun hS1 (fun q _ h => h) (fun q h => h) (fun q _ h => h) (fun E ce q9 u t H1 locs1 ht _ hpx _ _ _ _ _ _ _ => absurd rfl (hpx.1 u.2)) (fun r6 S2 t2 H2 locs2 ht2 _ hp2 hB2 _ _ hS2 => ?_)
  obtain ⟨-, hk41, hJ2, hth, hval⟩ := hp2
  have hP2 : va_P D vwCl (ab_wl ad cy S2) H2 := by rw [← ht2]; exact hB2
  refine W.widen (k := cells + 4) (n := slots + 24) (by show cells + 2 + 0 ≤ cells + 4; omega) (by show slots + 12 + 0 ≤ slots + 24; omega) ?_
  refine lv_istore hx hb dL_law_663 hl1 (by decide) rfl (fun ls2 hl2 => ?_)
  have hl2 : lv_has ls2 7 ((6, .int r6) :: (5, .int r) :: lw_lv b i ad) := hl2
  have hv : r = 0 → r6 = S2 41 0 0 := fun z => by
    have := hval z
    rw [hk41]
    cases this
    rfl
  exact lw_tailI C hl2 hP2 hS2 (by omega) (by omega) hth hv dL_law_665 dL_law_666 dL_law_669 dL_law_671 dL_law_676 dL_law_678 dL_law_681 dL_law_682 dL_law_683 dL_law_684 dL_law_686 dL_law_687 dL_law_688 dL_law_693 (by decide) (fun H3 locs3 hP3 hS3 => kk H3 locs3 ls2 S2 (lv_sub hl2 [2, 3, 4, 5, 6] rfl) hP3 hS3 hJ2)
set_option maxRecDepth 20000 in
theorem lc_child (C : LC p l s m meth c b L xs D ad cy sa) (hi : i + 3 < L) (hl : lv_has ls 7 (lw_lv b i ad)) (hP : va_P D vwCl (ab_wl ad cy S) H) (hS : va_S (ab_A s.heap.size) s.heap H locs) (hJ : Jv S) (hce : cells ≤ 2000) (hsl : slots ≤ 12000)
    (kk : ∀ (H1 : Heap) (locs1 : List Loc) (ls1 : Array Slot) (S1 : ab_S), lv_has ls1 7 (lw_lv b i ad) → va_P D vwCl (ab_wl ad cy S1) H1 → va_S (ab_A s.heap.size) s.heap H1 locs1 → Jv S1 → W p l e room_1 s m #[.ref b] below meth c H1 locs1 (cells + 4) (slots + 24) Q (F0 m 1146 ls1 [])) : W p l e room_1 s m #[.ref b] below meth c H locs cells slots Q (F0 m 696 ls []) := by
  obtain ⟨C0, hL, hlt, hKn, hwK, h00, h21, h41⟩ := id C
  obtain ⟨hx, hb, hr, hml, hown, hts0, hX, hbl, hlocks, hgv⟩ := id C0
  have hts : ∀ w ∈ wsL_law, w.before #[Value.ref b] s = true := fun w h => hts0 w (wsL_law_in w h)
  refine lv_aload_n hx hb dL_law_696 rfl (lv_at hl 3 rfl) ?_
  refine lw_arg (k := 1) hx hb hX hbl hS hL (by omega) (lv_at hl 4 rfl) (lv_at hl 0 rfl) (by decide) dL_law_697 dL_law_698 dL_law_700 dL_law_701 dL_law_702 ?_
  refine lw_arg (k := 2) hx hb hX hbl hS hL (by omega) (lv_at hl 4 rfl) (lv_at hl 0 rfl) (by decide) dL_law_703 dL_law_704 dL_law_706 dL_law_707 dL_law_708 ?_
  refine lv_aload_n hx hb dL_law_709 rfl (lv_at hl 1 rfl) ?_
  have hτ := lw_qI (X := fun E => (E, cd12 E) ∈ cdl_child ∧ cd12 E ≠ 0) (cdl := cdl_child) (op_child (x1 := xs (i + 1)) (x2 := xs (i + 2)) hJ) (tw_X5_child (by decide) (by decide)) (fun E h => h) tw_X6_child kp_X6_child
  have hoks : ab_oks ad [.inr (0, 0), .inl (xs (i + 1)), .inl (xs (i + 2)), .inr (41, 0)] := by
    intro v hv
    simp only [List.mem_cons, List.not_mem_nil, or_false] at hv
    rcases hv with rfl | rfl | rfl | rfl
    · exact h00
    · exact trivial
    · exact trivial
    · exact h41
  refine va_calli (a := #[]) (vx_runSW (R := room_1) (As := [.ref (ad (0, 0)), .int (xs (i + 1)), .int (xs (i + 2)), .ref (ad (41, 0))]) (rest := []) (g := F0 m 710 ls (([.ref (ad (0, 0)), .int (xs (i + 1)), .int (xs (i + 2)), .ref (ad (41, 0))] : List Value).reverse ++ [])) ⟨hx, hb, hml, hown, hts⟩ (wr_child l hlt D ad s.heap.size cy sa _ _ S _ hτ) (vx_cwSW 4 hts gL_law_L_child rfl rfl rfl ⟨by decide +kernel, by decide +kernel, by decide +kernel⟩ (by decide)) ⟨wr_blind _ _ _ _ _ _ _, fun U hU hW => ⟨rfl, hoks, by rw [hU]; exact hS.1, by rw [hU]; exact hP, ab_Kn.warm hW (by rw [hU]; exact hS.2.1) hKn, hwK.moved hW.alike⟩⟩ rfl rfl hl.1 rfl (lv_room (Nat.le_of_ble_eq_true rfl)) dL_law_710 ⟨by show cells + 2 ≤ 600128; omega, by show slots + 12 ≤ 7301098; omega⟩) hS (fun q _ h => h) (fun q h => h) (fun r S1 t1 H1 locs1 ht1 _ hp1 hB1 _ _ hS1 => ?_)
  have hP1 : va_P D vwCl (ab_wl ad cy S1) H1 := by rw [← ht1]; exact hB1
  refine lv_istore hx hb dL_law_713 hl (by decide) rfl (fun ls1 hl1 => ?_)
  have hl1 : lv_has ls1 7 ((5, .int r) :: lw_lv b i ad) := hl1
  refine lv_aload_n hx hb dL_law_715 rfl (lv_at hl1 3 rfl) ?_
  refine lw_arg (k := 1) hx hb hX hbl hS1 hL (by omega) (lv_at hl1 5 rfl) (lv_at hl1 1 rfl) (by decide) dL_law_716 dL_law_717 dL_law_719 dL_law_720 dL_law_721 ?_
  refine lw_arg (k := 2) hx hb hX hbl hS1 hL (by omega) (lv_at hl1 5 rfl) (lv_at hl1 1 rfl) (by decide) dL_law_722 dL_law_723 dL_law_725 dL_law_726 dL_law_727 ?_
  unfold LQI at hp1
  have hrun := wr_run (R := room_1) (n := 2) (rest := []) (locs := locs1) (cells := cells + 2) (slots := slots + 12) (below := below) (e := e) (meth := meth) (ls := ls1) (pc := 728) hx hb hml hown hts hKn (Nat.le_refl _) (so_X6_child l) gL_law_X6_child (21, 0) rfl rfl ⟨by decide +kernel, by decide +kernel, by decide +kernel⟩ (by decide) h21 rfl [.inl (xs (i + 1)), .inl (xs (i + 2))] (by intro v hv; simp only [List.mem_cons, List.not_mem_nil, or_false] at hv; rcases hv with rfl | rfl <;> exact trivial) rfl (Nat.le_of_ble_eq_true rfl) hp1 hP1 hS1 hl1.1 dL_law_728 (by show cells + 2 + 0 ≤ 600128; omega) (by show slots + 12 + 0 ≤ 7301098; omega)
  refine vx_calli (a := #[]) (S := ab_S) (SX := ab_S × Nat) hrun hS1 (fun q _ h => h) (fun q h => h) (fun q _ h => h) (fun E ce q9 u t H1 locs1 ht _ hpx _ _ _ _ _ _ _ => absurd rfl (hpx.1 u.2)) (fun r6 S2 t2 H2 locs2 ht2 _ hp2 hB2 _ _ hS2 => ?_)
  obtain ⟨-, hk41, hJ2, hth, hval⟩ := hp2
  have hP2 : va_P D vwCl (ab_wl ad cy S2) H2 := by rw [← ht2]; exact hB2
  refine W.widen (k := cells + 4) (n := slots + 24) (by show cells + 2 + 0 ≤ cells + 4; omega) (by show slots + 12 + 0 ≤ slots + 24; omega) ?_
  refine lv_istore hx hb dL_law_731 hl1 (by decide) rfl (fun ls2 hl2 => ?_)
  have hl2 : lv_has ls2 7 ((6, .int r6) :: (5, .int r) :: lw_lv b i ad) := hl2
  have hv : r = 0 → r6 = S2 41 0 0 := fun z => by
    have := hval z
    rw [hk41]
    cases this
    rfl
  exact lw_tailI C hl2 hP2 hS2 (by omega) (by omega) hth hv dL_law_733 dL_law_734 dL_law_737 dL_law_739 dL_law_744 dL_law_746 dL_law_749 dL_law_750 dL_law_751 dL_law_752 dL_law_754 dL_law_755 dL_law_756 dL_law_761 (by decide) (fun H3 locs3 hP3 hS3 => kk H3 locs3 ls2 S2 (lv_sub hl2 [2, 3, 4, 5, 6] rfl) hP3 hS3 hJ2)
set_option maxRecDepth 20000 in
theorem lc_nodes (C : LC p l s m meth c b L xs D ad cy sa) (hi : i + 3 < L) (hl : lv_has ls 7 (lw_lv b i ad)) (hP : va_P D vwCl (ab_wl ad cy S) H) (hS : va_S (ab_A s.heap.size) s.heap H locs) (hJ : Jv S) (hce : cells ≤ 2000) (hsl : slots ≤ 12000)
    (kk : ∀ (H1 : Heap) (locs1 : List Loc) (ls1 : Array Slot) (S1 : ab_S), lv_has ls1 7 (lw_lv b i ad) → va_P D vwCl (ab_wl ad cy S1) H1 → va_S (ab_A s.heap.size) s.heap H1 locs1 → Jv S1 → W p l e room_1 s m #[.ref b] below meth c H1 locs1 (cells + 4) (slots + 24) Q (F0 m 1146 ls1 [])) : W p l e room_1 s m #[.ref b] below meth c H locs cells slots Q (F0 m 764 ls []) := by
  obtain ⟨C0, hL, hlt, hKn, hwK, h00, h21, h41⟩ := id C
  obtain ⟨hx, hb, hr, hml, hown, hts0, hX, hbl, hlocks, hgv⟩ := id C0
  have hts : ∀ w ∈ wsL_law, w.before #[Value.ref b] s = true := fun w h => hts0 w (wsL_law_in w h)
  refine lv_aload_n hx hb dL_law_764 rfl (lv_at hl 3 rfl) ?_
  refine lw_arg (k := 1) hx hb hX hbl hS hL (by omega) (lv_at hl 4 rfl) (lv_at hl 0 rfl) (by decide) dL_law_765 dL_law_766 dL_law_768 dL_law_769 dL_law_770 ?_
  refine lv_if_eq hx hb dL_law_771 (tgt := 778) (by decide) (fun z => ?_) (fun z => ?_)
  · refine lv_iconst hx hb dL_law_778 (v := 0) (by decide) ?_
    have hτ := lw_strong (tw_X5_nodes (X := fun _ => False)) kp_X5_nodes (op_nodes (x1 := 0) hJ)
    have hrun := wr_run (R := room_1) (n := 1) (rest := []) (locs := locs) (cells := cells) (slots := slots) (below := below) (e := e) (meth := meth) (ls := ls) (pc := 779) hx hb hml hown hts hKn (Nat.le_refl _) (so_X5_nodes l) gL_law_X5_nodes (0, 0) rfl rfl ⟨by decide +kernel, by decide +kernel, by decide +kernel⟩ (by decide) h00 rfl [.inl (0)] (by intro v hv; simp only [List.mem_cons, List.not_mem_nil, or_false] at hv; rcases hv with rfl; exact trivial) rfl (Nat.le_of_ble_eq_true rfl) hτ hP hS hl.1 dL_law_779 (by show cells + 0 ≤ 600128; omega) (by show slots + 0 ≤ 7301098; omega)
    refine vx_calli (a := #[]) (S := ab_S) (SX := ab_S × Nat) hrun hS (fun q _ h => h) (fun q h => h) (fun q _ h => h) (fun E ce q9 u t H1 locs1 ht _ hpx _ _ _ _ _ _ _ => absurd rfl (hpx.1 u.2)) (fun r1 S1 t1 H1 locs1 ht1 _ hp1 hB1 _ _ hS1 => ?_)
    have hP1 : va_P D vwCl (ab_wl ad cy S1) H1 := by rw [← ht1]; exact hB1
    have hm := lw_strong (tw_X6_nodes (X := fun _ => False)) kp_X6_nodes (hp1.2.2 S1 (fun _ _ => rfl))
    refine lv_aload_n hx hb dL_law_782 rfl (lv_at hl 2 rfl) ?_
    refine lw_arg (k := 1) hx hb hX hbl hS1 hL (by omega) (lv_at hl 4 rfl) (lv_at hl 0 rfl) (by decide) dL_law_783 dL_law_784 dL_law_786 dL_law_787 dL_law_788 ?_
    refine lv_if_eq hx hb dL_law_789 (tgt := 796) (by decide) (fun _ => ?_) (fun h => absurd z h)
    refine lv_iconst hx hb dL_law_796 (v := 0) (by decide) ?_
    have hrun2 := wr_run (R := room_1) (n := 1) (rest := [.int r1]) (locs := locs1) (cells := cells + 0) (slots := slots + 0) (below := below) (e := e) (meth := meth) (ls := ls) (pc := 797) hx hb hml hown hts hKn (Nat.le_refl _) (so_X6_nodes l) gL_law_X6_nodes (21, 0) rfl rfl ⟨by decide +kernel, by decide +kernel, by decide +kernel⟩ (by decide) h21 rfl [.inl (0)] (by intro v hv; simp only [List.mem_cons, List.not_mem_nil, or_false] at hv; rcases hv with rfl; exact trivial) rfl (Nat.le_of_ble_eq_true rfl) hm hP1 hS1 hl.1 dL_law_797 (by show cells + 0 + 0 ≤ 600128; omega) (by show slots + 0 + 0 ≤ 7301098; omega)
    refine vx_calli (a := #[]) (S := ab_S) (SX := ab_S × Nat) hrun2 hS1 (fun q _ h => h) (fun q h => h) (fun q _ h => h) (fun E ce q9 u t H1 locs1 ht _ hpx _ _ _ _ _ _ _ => absurd rfl (hpx.1 u.2)) (fun r2 S2 t2 H2 locs2 ht2 _ hp2 hB2 _ _ hS2 => ?_)
    obtain ⟨-, -, hJ2, -, hval⟩ := hp2
    have hv2 := hval r1 rfl
    cases hv2
    refine lv_icmp_eq hx hb dL_law_800 (tgt := 1146) (by decide) (fun _ => ?_) (fun h => absurd rfl h)
    refine W.widen (k := cells + 4) (n := slots + 24) (by show cells + 0 + 0 ≤ cells + 4; omega) (by show slots + 0 + 0 ≤ slots + 24; omega) ?_
    exact kk H2 locs2 ls S2 hl (by rw [← ht2]; exact hB2) hS2 hJ2
  · refine lv_iconst hx hb dL_law_774 (v := 1) (by decide) ?_
    refine lv_goto hx hb dL_law_775 (tgt := 779) (by decide) ?_
    have hτ := lw_strong (tw_X5_nodes (X := fun _ => False)) kp_X5_nodes (op_nodes (x1 := 1) hJ)
    have hrun := wr_run (R := room_1) (n := 1) (rest := []) (locs := locs) (cells := cells) (slots := slots) (below := below) (e := e) (meth := meth) (ls := ls) (pc := 779) hx hb hml hown hts hKn (Nat.le_refl _) (so_X5_nodes l) gL_law_X5_nodes (0, 0) rfl rfl ⟨by decide +kernel, by decide +kernel, by decide +kernel⟩ (by decide) h00 rfl [.inl (1)] (by intro v hv; simp only [List.mem_cons, List.not_mem_nil, or_false] at hv; rcases hv with rfl; exact trivial) rfl (Nat.le_of_ble_eq_true rfl) hτ hP hS hl.1 dL_law_779 (by show cells + 0 ≤ 600128; omega) (by show slots + 0 ≤ 7301098; omega)
    refine vx_calli (a := #[]) (S := ab_S) (SX := ab_S × Nat) hrun hS (fun q _ h => h) (fun q h => h) (fun q _ h => h) (fun E ce q9 u t H1 locs1 ht _ hpx _ _ _ _ _ _ _ => absurd rfl (hpx.1 u.2)) (fun r1 S1 t1 H1 locs1 ht1 _ hp1 hB1 _ _ hS1 => ?_)
    have hP1 : va_P D vwCl (ab_wl ad cy S1) H1 := by rw [← ht1]; exact hB1
    have hm := lw_strong (tw_X6_nodes (X := fun _ => False)) kp_X6_nodes (hp1.2.2 S1 (fun _ _ => rfl))
    refine lv_aload_n hx hb dL_law_782 rfl (lv_at hl 2 rfl) ?_
    refine lw_arg (k := 1) hx hb hX hbl hS1 hL (by omega) (lv_at hl 4 rfl) (lv_at hl 0 rfl) (by decide) dL_law_783 dL_law_784 dL_law_786 dL_law_787 dL_law_788 ?_
    refine lv_if_eq hx hb dL_law_789 (tgt := 796) (by decide) (fun h => absurd h z) (fun _ => ?_)
    refine lv_iconst hx hb dL_law_792 (v := 1) (by decide) ?_
    refine lv_goto hx hb dL_law_793 (tgt := 797) (by decide) ?_
    have hrun2 := wr_run (R := room_1) (n := 1) (rest := [.int r1]) (locs := locs1) (cells := cells + 0) (slots := slots + 0) (below := below) (e := e) (meth := meth) (ls := ls) (pc := 797) hx hb hml hown hts hKn (Nat.le_refl _) (so_X6_nodes l) gL_law_X6_nodes (21, 0) rfl rfl ⟨by decide +kernel, by decide +kernel, by decide +kernel⟩ (by decide) h21 rfl [.inl (1)] (by intro v hv; simp only [List.mem_cons, List.not_mem_nil, or_false] at hv; rcases hv with rfl; exact trivial) rfl (Nat.le_of_ble_eq_true rfl) hm hP1 hS1 hl.1 dL_law_797 (by show cells + 0 + 0 ≤ 600128; omega) (by show slots + 0 + 0 ≤ 7301098; omega)
    refine vx_calli (a := #[]) (S := ab_S) (SX := ab_S × Nat) hrun2 hS1 (fun q _ h => h) (fun q h => h) (fun q _ h => h) (fun E ce q9 u t H1 locs1 ht _ hpx _ _ _ _ _ _ _ => absurd rfl (hpx.1 u.2)) (fun r2 S2 t2 H2 locs2 ht2 _ hp2 hB2 _ _ hS2 => ?_)
    obtain ⟨-, -, hJ2, -, hval⟩ := hp2
    have hv2 := hval r1 rfl
    cases hv2
    refine lv_icmp_eq hx hb dL_law_800 (tgt := 1146) (by decide) (fun _ => ?_) (fun h => absurd rfl h)
    refine W.widen (k := cells + 4) (n := slots + 24) (by show cells + 0 + 0 ≤ cells + 4; omega) (by show slots + 0 + 0 ≤ slots + 24; omega) ?_
    exact kk H2 locs2 ls S2 hl (by rw [← ht2]; exact hB2) hS2 hJ2
set_option maxRecDepth 20000 in
theorem lc_count (C : LC p l s m meth c b L xs D ad cy sa) (hi : i + 3 < L) (hl : lv_has ls 7 (lw_lv b i ad)) (hP : va_P D vwCl (ab_wl ad cy S) H) (hS : va_S (ab_A s.heap.size) s.heap H locs) (hJ : Jv S) (hce : cells ≤ 2000) (hsl : slots ≤ 12000)
    (kk : ∀ (H1 : Heap) (locs1 : List Loc) (ls1 : Array Slot) (S1 : ab_S), lv_has ls1 7 (lw_lv b i ad) → va_P D vwCl (ab_wl ad cy S1) H1 → va_S (ab_A s.heap.size) s.heap H1 locs1 → Jv S1 → W p l e room_1 s m #[.ref b] below meth c H1 locs1 (cells + 4) (slots + 24) Q (F0 m 1146 ls1 [])) : W p l e room_1 s m #[.ref b] below meth c H locs cells slots Q (F0 m 805 ls []) := by
  obtain ⟨C0, hL, hlt, hKn, hwK, h00, h21, h41⟩ := id C
  obtain ⟨hx, hb, hr, hml, hown, hts0, hX, hbl, hlocks, hgv⟩ := id C0
  have hts : ∀ w ∈ wsL_law, w.before #[Value.ref b] s = true := fun w h => hts0 w (wsL_law_in w h)
  refine lv_aload_n hx hb dL_law_805 rfl (lv_at hl 3 rfl) ?_
  refine lw_arg (k := 1) hx hb hX hbl hS hL (by omega) (lv_at hl 4 rfl) (lv_at hl 0 rfl) (by decide) dL_law_806 dL_law_807 dL_law_809 dL_law_810 dL_law_811 ?_
  have hτ := lw_strong (tw_X5_count (X := fun _ => False)) kp_X5_count (op_count (x1 := xs (i + 1)) hJ)
  have hrun := wr_run (R := room_1) (n := 1) (rest := []) (locs := locs) (cells := cells) (slots := slots) (below := below) (e := e) (meth := meth) (ls := ls) (pc := 812) hx hb hml hown hts hKn (Nat.le_refl _) (so_X5_count l) gL_law_X5_count (0, 0) rfl rfl ⟨by decide +kernel, by decide +kernel, by decide +kernel⟩ (by decide) h00 rfl [.inl (xs (i + 1))] (by intro v hv; simp only [List.mem_cons, List.not_mem_nil, or_false] at hv; rcases hv with rfl; exact trivial) rfl (Nat.le_of_ble_eq_true rfl) hτ hP hS hl.1 dL_law_812 (by show cells + 0 ≤ 600128; omega) (by show slots + 0 ≤ 7301098; omega)
  refine vx_calli (a := #[]) (S := ab_S) (SX := ab_S × Nat) hrun hS (fun q _ h => h) (fun q h => h) (fun q _ h => h) (fun E ce q9 u t H1 locs1 ht _ hpx _ _ _ _ _ _ _ => absurd rfl (hpx.1 u.2)) (fun r1 S1 t1 H1 locs1 ht1 _ hp1 hB1 _ _ hS1 => ?_)
  have hP1 : va_P D vwCl (ab_wl ad cy S1) H1 := by rw [← ht1]; exact hB1
  have hm := lw_strong (tw_X6_count (X := fun _ => False)) kp_X6_count (hp1.2.2 S1 (fun _ _ => rfl))
  refine lv_aload_n hx hb dL_law_815 rfl (lv_at hl 2 rfl) ?_
  refine lw_arg (k := 1) hx hb hX hbl hS1 hL (by omega) (lv_at hl 4 rfl) (lv_at hl 0 rfl) (by decide) dL_law_816 dL_law_817 dL_law_819 dL_law_820 dL_law_821 ?_
  have hrun2 := wr_run (R := room_1) (n := 1) (rest := [.int r1]) (locs := locs1) (cells := cells + 0) (slots := slots + 0) (below := below) (e := e) (meth := meth) (ls := ls) (pc := 822) hx hb hml hown hts hKn (Nat.le_refl _) (so_X6_count l) gL_law_X6_count (21, 0) rfl rfl ⟨by decide +kernel, by decide +kernel, by decide +kernel⟩ (by decide) h21 rfl [.inl (xs (i + 1))] (by intro v hv; simp only [List.mem_cons, List.not_mem_nil, or_false] at hv; rcases hv with rfl; exact trivial) rfl (Nat.le_of_ble_eq_true rfl) hm hP1 hS1 hl.1 dL_law_822 (by show cells + 0 + 0 ≤ 600128; omega) (by show slots + 0 + 0 ≤ 7301098; omega)
  refine vx_calli (a := #[]) (S := ab_S) (SX := ab_S × Nat) hrun2 hS1 (fun q _ h => h) (fun q h => h) (fun q _ h => h) (fun E ce q9 u t H1 locs1 ht _ hpx _ _ _ _ _ _ _ => absurd rfl (hpx.1 u.2)) (fun r2 S2 t2 H2 locs2 ht2 _ hp2 hB2 _ _ hS2 => ?_)
  obtain ⟨-, -, hJ2, -, hval⟩ := hp2
  have hv2 := hval r1 rfl
  cases hv2
  refine lv_icmp_eq hx hb dL_law_825 (tgt := 1146) (by decide) (fun _ => ?_) (fun h => absurd rfl h)
  refine W.widen (k := cells + 4) (n := slots + 24) (by show cells + 0 + 0 ≤ cells + 4; omega) (by show slots + 0 + 0 ≤ slots + 24; omega) ?_
  exact kk H2 locs2 ls S2 hl (by rw [← ht2]; exact hB2) hS2 hJ2
set_option maxRecDepth 20000 in
theorem lc_find (C : LC p l s m meth c b L xs D ad cy sa) (hi : i + 3 < L) (hl : lv_has ls 7 (lw_lv b i ad)) (hP : va_P D vwCl (ab_wl ad cy S) H) (hS : va_S (ab_A s.heap.size) s.heap H locs) (hJ : Jv S) (hce : cells ≤ 2000) (hsl : slots ≤ 12000)
    (kk : ∀ (H1 : Heap) (locs1 : List Loc) (ls1 : Array Slot) (S1 : ab_S), lv_has ls1 7 (lw_lv b i ad) → va_P D vwCl (ab_wl ad cy S1) H1 → va_S (ab_A s.heap.size) s.heap H1 locs1 → Jv S1 → W p l e room_1 s m #[.ref b] below meth c H1 locs1 (cells + 4) (slots + 24) Q (F0 m 1146 ls1 [])) : W p l e room_1 s m #[.ref b] below meth c H locs cells slots Q (F0 m 830 ls []) := by
  obtain ⟨C0, hL, hlt, hKn, hwK, h00, h21, h41⟩ := id C
  obtain ⟨hx, hb, hr, hml, hown, hts0, hX, hbl, hlocks, hgv⟩ := id C0
  have hts : ∀ w ∈ wsL_law, w.before #[Value.ref b] s = true := fun w h => hts0 w (wsL_law_in w h)
  refine lv_aload_n hx hb dL_law_830 rfl (lv_at hl 3 rfl) ?_
  refine lw_arg (k := 1) hx hb hX hbl hS hL (by omega) (lv_at hl 4 rfl) (lv_at hl 0 rfl) (by decide) dL_law_831 dL_law_832 dL_law_834 dL_law_835 dL_law_836 ?_
  refine lw_arg (k := 2) hx hb hX hbl hS hL (by omega) (lv_at hl 4 rfl) (lv_at hl 0 rfl) (by decide) dL_law_837 dL_law_838 dL_law_840 dL_law_841 dL_law_842 ?_
  refine lv_aload_n hx hb dL_law_843 rfl (lv_at hl 1 rfl) ?_
  have hτ := lw_qI (X := fun E => (E, cd1 E) ∈ cdl_find ∧ cd1 E ≠ 0) (cdl := cdl_find) (op_find (x1 := xs (i + 1)) (x2 := xs (i + 2)) hJ) (tw_X5_find (by decide)) (fun E h => h) tw_X6_find kp_X6_find
  have hoks : ab_oks ad [.inr (0, 0), .inl (xs (i + 1)), .inl (xs (i + 2)), .inr (41, 0)] := by
    intro v hv
    simp only [List.mem_cons, List.not_mem_nil, or_false] at hv
    rcases hv with rfl | rfl | rfl | rfl
    · exact h00
    · exact trivial
    · exact trivial
    · exact h41
  refine va_calli (a := #[]) (vx_runSW (R := room_1) (As := [.ref (ad (0, 0)), .int (xs (i + 1)), .int (xs (i + 2)), .ref (ad (41, 0))]) (rest := []) (g := F0 m 844 ls (([.ref (ad (0, 0)), .int (xs (i + 1)), .int (xs (i + 2)), .ref (ad (41, 0))] : List Value).reverse ++ [])) ⟨hx, hb, hml, hown, hts⟩ (wr_find l hlt D ad s.heap.size cy sa _ _ S _ hτ) (vx_cwSW 4 hts gL_law_L_find rfl rfl rfl ⟨by decide +kernel, by decide +kernel, by decide +kernel⟩ (by decide)) ⟨wr_blind _ _ _ _ _ _ _, fun U hU hW => ⟨rfl, hoks, by rw [hU]; exact hS.1, by rw [hU]; exact hP, ab_Kn.warm hW (by rw [hU]; exact hS.2.1) hKn, hwK.moved hW.alike⟩⟩ rfl rfl hl.1 rfl (lv_room (Nat.le_of_ble_eq_true rfl)) dL_law_844 ⟨by show cells + 1 ≤ 600128; omega, by show slots + 6 ≤ 7301098; omega⟩) hS (fun q _ h => h) (fun q h => h) (fun r S1 t1 H1 locs1 ht1 _ hp1 hB1 _ _ hS1 => ?_)
  have hP1 : va_P D vwCl (ab_wl ad cy S1) H1 := by rw [← ht1]; exact hB1
  refine lv_istore hx hb dL_law_847 hl (by decide) rfl (fun ls1 hl1 => ?_)
  have hl1 : lv_has ls1 7 ((5, .int r) :: lw_lv b i ad) := hl1
  refine lv_aload_n hx hb dL_law_849 rfl (lv_at hl1 3 rfl) ?_
  refine lw_arg (k := 1) hx hb hX hbl hS1 hL (by omega) (lv_at hl1 5 rfl) (lv_at hl1 1 rfl) (by decide) dL_law_850 dL_law_851 dL_law_853 dL_law_854 dL_law_855 ?_
  refine lw_arg (k := 2) hx hb hX hbl hS1 hL (by omega) (lv_at hl1 5 rfl) (lv_at hl1 1 rfl) (by decide) dL_law_856 dL_law_857 dL_law_859 dL_law_860 dL_law_861 ?_
  unfold LQI at hp1
  have hrun := wr_run (R := room_1) (n := 2) (rest := []) (locs := locs1) (cells := cells + 1) (slots := slots + 6) (below := below) (e := e) (meth := meth) (ls := ls1) (pc := 862) hx hb hml hown hts hKn (Nat.le_refl _) (so_X6_find l) gL_law_X6_find (21, 0) rfl rfl ⟨by decide +kernel, by decide +kernel, by decide +kernel⟩ (by decide) h21 rfl [.inl (xs (i + 1)), .inl (xs (i + 2))] (by intro v hv; simp only [List.mem_cons, List.not_mem_nil, or_false] at hv; rcases hv with rfl | rfl <;> exact trivial) rfl (Nat.le_of_ble_eq_true rfl) hp1 hP1 hS1 hl1.1 dL_law_862 (by show cells + 1 + 0 ≤ 600128; omega) (by show slots + 6 + 0 ≤ 7301098; omega)
  refine vx_calli (a := #[]) (S := ab_S) (SX := ab_S × Nat) hrun hS1 (fun q _ h => h) (fun q h => h) (fun q _ h => h) (fun E ce q9 u t H1 locs1 ht _ hpx _ _ _ _ _ _ _ => absurd rfl (hpx.1 u.2)) (fun r6 S2 t2 H2 locs2 ht2 _ hp2 hB2 _ _ hS2 => ?_)
  obtain ⟨-, hk41, hJ2, hth, hval⟩ := hp2
  have hP2 : va_P D vwCl (ab_wl ad cy S2) H2 := by rw [← ht2]; exact hB2
  refine W.widen (k := cells + 4) (n := slots + 24) (by show cells + 1 + 0 ≤ cells + 4; omega) (by show slots + 6 + 0 ≤ slots + 24; omega) ?_
  refine lv_istore hx hb dL_law_865 hl1 (by decide) rfl (fun ls2 hl2 => ?_)
  have hl2 : lv_has ls2 7 ((6, .int r6) :: (5, .int r) :: lw_lv b i ad) := hl2
  have hv : r = 0 → r6 = S2 41 0 0 := fun z => by
    have := hval z
    rw [hk41]
    cases this
    rfl
  exact lw_tailI C hl2 hP2 hS2 (by omega) (by omega) hth hv dL_law_867 dL_law_868 dL_law_871 dL_law_873 dL_law_878 dL_law_880 dL_law_883 dL_law_884 dL_law_885 dL_law_886 dL_law_888 dL_law_889 dL_law_890 dL_law_895 (by decide) (fun H3 locs3 hP3 hS3 => kk H3 locs3 ls2 S2 (lv_sub hl2 [2, 3, 4, 5, 6] rfl) hP3 hS3 hJ2)
set_option maxRecDepth 20000 in
theorem lc_alike (C : LC p l s m meth c b L xs D ad cy sa) (hi : i + 3 < L) (hl : lv_has ls 7 (lw_lv b i ad)) (hP : va_P D vwCl (ab_wl ad cy S) H) (hS : va_S (ab_A s.heap.size) s.heap H locs) (hJ : Jv S) (hce : cells ≤ 2000) (hsl : slots ≤ 12000)
    (kk : ∀ (H1 : Heap) (locs1 : List Loc) (ls1 : Array Slot) (S1 : ab_S), lv_has ls1 7 (lw_lv b i ad) → va_P D vwCl (ab_wl ad cy S1) H1 → va_S (ab_A s.heap.size) s.heap H1 locs1 → Jv S1 → W p l e room_1 s m #[.ref b] below meth c H1 locs1 (cells + 4) (slots + 24) Q (F0 m 1146 ls1 [])) : W p l e room_1 s m #[.ref b] below meth c H locs cells slots Q (F0 m 898 ls []) := by
  obtain ⟨C0, hL, hlt, hKn, hwK, h00, h21, h41⟩ := id C
  obtain ⟨hx, hb, hr, hml, hown, hts0, hX, hbl, hlocks, hgv⟩ := id C0
  have hts : ∀ w ∈ wsL_law, w.before #[Value.ref b] s = true := fun w h => hts0 w (wsL_law_in w h)
  refine lv_aload_n hx hb dL_law_898 rfl (lv_at hl 3 rfl) ?_
  refine lw_arg (k := 1) hx hb hX hbl hS hL (by omega) (lv_at hl 4 rfl) (lv_at hl 0 rfl) (by decide) dL_law_899 dL_law_900 dL_law_902 dL_law_903 dL_law_904 ?_
  refine lv_aload_n hx hb dL_law_905 rfl (lv_at hl 1 rfl) ?_
  have hτ := lw_qI (X := fun E => (E, cd1 E) ∈ cdl_alike ∧ cd1 E ≠ 0) (cdl := cdl_alike) (op_alike (x1 := xs (i + 1)) hJ) (tw_X5_alike (by decide)) (fun E h => h) tw_X6_alike kp_X6_alike
  have hoks : ab_oks ad [.inr (0, 0), .inl (xs (i + 1)), .inr (41, 0)] := by
    intro v hv
    simp only [List.mem_cons, List.not_mem_nil, or_false] at hv
    rcases hv with rfl | rfl | rfl
    · exact h00
    · exact trivial
    · exact h41
  refine va_calli (a := #[]) (vx_runSW (R := room_1) (As := [.ref (ad (0, 0)), .int (xs (i + 1)), .ref (ad (41, 0))]) (rest := []) (g := F0 m 906 ls (([.ref (ad (0, 0)), .int (xs (i + 1)), .ref (ad (41, 0))] : List Value).reverse ++ [])) ⟨hx, hb, hml, hown, hts⟩ (wr_alike l hlt D ad s.heap.size cy sa _ S _ hτ) (vx_cwSW 3 hts gL_law_L_alike rfl rfl rfl ⟨by decide +kernel, by decide +kernel, by decide +kernel⟩ (by decide)) ⟨wr_blind _ _ _ _ _ _ _, fun U hU hW => ⟨rfl, hoks, by rw [hU]; exact hS.1, by rw [hU]; exact hP, ab_Kn.warm hW (by rw [hU]; exact hS.2.1) hKn, hwK.moved hW.alike⟩⟩ rfl rfl hl.1 rfl (lv_room (Nat.le_of_ble_eq_true rfl)) dL_law_906 ⟨by show cells + 1 ≤ 600128; omega, by show slots + 6 ≤ 7301098; omega⟩) hS (fun q _ h => h) (fun q h => h) (fun r S1 t1 H1 locs1 ht1 _ hp1 hB1 _ _ hS1 => ?_)
  have hP1 : va_P D vwCl (ab_wl ad cy S1) H1 := by rw [← ht1]; exact hB1
  refine lv_istore hx hb dL_law_909 hl (by decide) rfl (fun ls1 hl1 => ?_)
  have hl1 : lv_has ls1 7 ((5, .int r) :: lw_lv b i ad) := hl1
  refine lv_aload_n hx hb dL_law_911 rfl (lv_at hl1 3 rfl) ?_
  refine lw_arg (k := 1) hx hb hX hbl hS1 hL (by omega) (lv_at hl1 5 rfl) (lv_at hl1 1 rfl) (by decide) dL_law_912 dL_law_913 dL_law_915 dL_law_916 dL_law_917 ?_
  unfold LQI at hp1
  have hrun := wr_run (R := room_1) (n := 1) (rest := []) (locs := locs1) (cells := cells + 1) (slots := slots + 6) (below := below) (e := e) (meth := meth) (ls := ls1) (pc := 918) hx hb hml hown hts hKn (Nat.le_refl _) (so_X6_alike l) gL_law_X6_alike (21, 0) rfl rfl ⟨by decide +kernel, by decide +kernel, by decide +kernel⟩ (by decide) h21 rfl [.inl (xs (i + 1))] (by intro v hv; simp only [List.mem_cons, List.not_mem_nil, or_false] at hv; rcases hv with rfl <;> exact trivial) rfl (Nat.le_of_ble_eq_true rfl) hp1 hP1 hS1 hl1.1 dL_law_918 (by show cells + 1 + 0 ≤ 600128; omega) (by show slots + 6 + 0 ≤ 7301098; omega)
  refine vx_calli (a := #[]) (S := ab_S) (SX := ab_S × Nat) hrun hS1 (fun q _ h => h) (fun q h => h) (fun q _ h => h) (fun E ce q9 u t H1 locs1 ht _ hpx _ _ _ _ _ _ _ => absurd rfl (hpx.1 u.2)) (fun r6 S2 t2 H2 locs2 ht2 _ hp2 hB2 _ _ hS2 => ?_)
  obtain ⟨-, hk41, hJ2, hth, hval⟩ := hp2
  have hP2 : va_P D vwCl (ab_wl ad cy S2) H2 := by rw [← ht2]; exact hB2
  refine W.widen (k := cells + 4) (n := slots + 24) (by show cells + 1 + 0 ≤ cells + 4; omega) (by show slots + 6 + 0 ≤ slots + 24; omega) ?_
  refine lv_istore hx hb dL_law_921 hl1 (by decide) rfl (fun ls2 hl2 => ?_)
  have hl2 : lv_has ls2 7 ((6, .int r6) :: (5, .int r) :: lw_lv b i ad) := hl2
  have hv : r = 0 → r6 = S2 41 0 0 := fun z => by
    have := hval z
    rw [hk41]
    cases this
    rfl
  exact lw_tailI C hl2 hP2 hS2 (by omega) (by omega) hth hv dL_law_923 dL_law_924 dL_law_927 dL_law_929 dL_law_934 dL_law_936 dL_law_939 dL_law_940 dL_law_941 dL_law_942 dL_law_944 dL_law_945 dL_law_946 dL_law_951 (by decide) (fun H3 locs3 hP3 hS3 => kk H3 locs3 ls2 S2 (lv_sub hl2 [2, 3, 4, 5, 6] rfl) hP3 hS3 hJ2)
set_option maxRecDepth 20000 in
theorem lc_distance (C : LC p l s m meth c b L xs D ad cy sa) (hi : i + 3 < L) (hl : lv_has ls 7 (lw_lv b i ad)) (hP : va_P D vwCl (ab_wl ad cy S) H) (hS : va_S (ab_A s.heap.size) s.heap H locs) (hJ : Jv S) (hce : cells ≤ 2000) (hsl : slots ≤ 12000)
    (kk : ∀ (H1 : Heap) (locs1 : List Loc) (ls1 : Array Slot) (S1 : ab_S), lv_has ls1 7 (lw_lv b i ad) → va_P D vwCl (ab_wl ad cy S1) H1 → va_S (ab_A s.heap.size) s.heap H1 locs1 → Jv S1 → W p l e room_1 s m #[.ref b] below meth c H1 locs1 (cells + 4) (slots + 24) Q (F0 m 1146 ls1 [])) : W p l e room_1 s m #[.ref b] below meth c H locs cells slots Q (F0 m 954 ls []) := by
  obtain ⟨C0, hL, hlt, hKn, hwK, h00, h21, h41⟩ := id C
  obtain ⟨hx, hb, hr, hml, hown, hts0, hX, hbl, hlocks, hgv⟩ := id C0
  have hts : ∀ w ∈ wsL_law, w.before #[Value.ref b] s = true := fun w h => hts0 w (wsL_law_in w h)
  refine lv_aload_n hx hb dL_law_954 rfl (lv_at hl 3 rfl) ?_
  refine lw_arg (k := 1) hx hb hX hbl hS hL (by omega) (lv_at hl 4 rfl) (lv_at hl 0 rfl) (by decide) dL_law_955 dL_law_956 dL_law_958 dL_law_959 dL_law_960 ?_
  refine lw_arg (k := 2) hx hb hX hbl hS hL (by omega) (lv_at hl 4 rfl) (lv_at hl 0 rfl) (by decide) dL_law_961 dL_law_962 dL_law_964 dL_law_965 dL_law_966 ?_
  refine lv_aload_n hx hb dL_law_967 rfl (lv_at hl 1 rfl) ?_
  have hτ := lw_qI (X := fun E => (E, cd1 E) ∈ cdl_distance ∧ cd1 E ≠ 0) (cdl := cdl_distance) (op_distance (x1 := xs (i + 1)) (x2 := xs (i + 2)) hJ) (tw_X5_distance (by decide)) (fun E h => h) tw_X6_distance kp_X6_distance
  have hoks : ab_oks ad [.inr (0, 0), .inl (xs (i + 1)), .inl (xs (i + 2)), .inr (41, 0)] := by
    intro v hv
    simp only [List.mem_cons, List.not_mem_nil, or_false] at hv
    rcases hv with rfl | rfl | rfl | rfl
    · exact h00
    · exact trivial
    · exact trivial
    · exact h41
  refine va_calli (a := #[]) (vx_runSW (R := room_1) (As := [.ref (ad (0, 0)), .int (xs (i + 1)), .int (xs (i + 2)), .ref (ad (41, 0))]) (rest := []) (g := F0 m 968 ls (([.ref (ad (0, 0)), .int (xs (i + 1)), .int (xs (i + 2)), .ref (ad (41, 0))] : List Value).reverse ++ [])) ⟨hx, hb, hml, hown, hts⟩ (wr_distance l hlt D ad s.heap.size cy sa _ _ S _ hτ) (vx_cwSW 4 hts gL_law_L_distance rfl rfl rfl ⟨by decide +kernel, by decide +kernel, by decide +kernel⟩ (by decide)) ⟨wr_blind _ _ _ _ _ _ _, fun U hU hW => ⟨rfl, hoks, by rw [hU]; exact hS.1, by rw [hU]; exact hP, ab_Kn.warm hW (by rw [hU]; exact hS.2.1) hKn, hwK.moved hW.alike⟩⟩ rfl rfl hl.1 rfl (lv_room (Nat.le_of_ble_eq_true rfl)) dL_law_968 ⟨by show cells + 2 ≤ 600128; omega, by show slots + 12 ≤ 7301098; omega⟩) hS (fun q _ h => h) (fun q h => h) (fun r S1 t1 H1 locs1 ht1 _ hp1 hB1 _ _ hS1 => ?_)
  have hP1 : va_P D vwCl (ab_wl ad cy S1) H1 := by rw [← ht1]; exact hB1
  refine lv_istore hx hb dL_law_971 hl (by decide) rfl (fun ls1 hl1 => ?_)
  have hl1 : lv_has ls1 7 ((5, .int r) :: lw_lv b i ad) := hl1
  refine lv_aload_n hx hb dL_law_973 rfl (lv_at hl1 3 rfl) ?_
  refine lw_arg (k := 1) hx hb hX hbl hS1 hL (by omega) (lv_at hl1 5 rfl) (lv_at hl1 1 rfl) (by decide) dL_law_974 dL_law_975 dL_law_977 dL_law_978 dL_law_979 ?_
  refine lw_arg (k := 2) hx hb hX hbl hS1 hL (by omega) (lv_at hl1 5 rfl) (lv_at hl1 1 rfl) (by decide) dL_law_980 dL_law_981 dL_law_983 dL_law_984 dL_law_985 ?_
  unfold LQI at hp1
  have hrun := wr_run (R := room_1) (n := 2) (rest := []) (locs := locs1) (cells := cells + 2) (slots := slots + 12) (below := below) (e := e) (meth := meth) (ls := ls1) (pc := 986) hx hb hml hown hts hKn (Nat.le_refl _) (so_X6_distance l) gL_law_X6_distance (21, 0) rfl rfl ⟨by decide +kernel, by decide +kernel, by decide +kernel⟩ (by decide) h21 rfl [.inl (xs (i + 1)), .inl (xs (i + 2))] (by intro v hv; simp only [List.mem_cons, List.not_mem_nil, or_false] at hv; rcases hv with rfl | rfl <;> exact trivial) rfl (Nat.le_of_ble_eq_true rfl) hp1 hP1 hS1 hl1.1 dL_law_986 (by show cells + 2 + 0 ≤ 600128; omega) (by show slots + 12 + 0 ≤ 7301098; omega)
  refine vx_calli (a := #[]) (S := ab_S) (SX := ab_S × Nat) hrun hS1 (fun q _ h => h) (fun q h => h) (fun q _ h => h) (fun E ce q9 u t H1 locs1 ht _ hpx _ _ _ _ _ _ _ => absurd rfl (hpx.1 u.2)) (fun r6 S2 t2 H2 locs2 ht2 _ hp2 hB2 _ _ hS2 => ?_)
  obtain ⟨-, hk41, hJ2, hth, hval⟩ := hp2
  have hP2 : va_P D vwCl (ab_wl ad cy S2) H2 := by rw [← ht2]; exact hB2
  refine W.widen (k := cells + 4) (n := slots + 24) (by show cells + 2 + 0 ≤ cells + 4; omega) (by show slots + 12 + 0 ≤ slots + 24; omega) ?_
  refine lv_istore hx hb dL_law_989 hl1 (by decide) rfl (fun ls2 hl2 => ?_)
  have hl2 : lv_has ls2 7 ((6, .int r6) :: (5, .int r) :: lw_lv b i ad) := hl2
  have hv : r = 0 → r6 = S2 41 0 0 := fun z => by
    have := hval z
    rw [hk41]
    cases this
    rfl
  exact lw_tailI C hl2 hP2 hS2 (by omega) (by omega) hth hv dL_law_991 dL_law_992 dL_law_995 dL_law_997 dL_law_1002 dL_law_1004 dL_law_1007 dL_law_1008 dL_law_1009 dL_law_1010 dL_law_1012 dL_law_1013 dL_law_1014 dL_law_1019 (by decide) (fun H3 locs3 hP3 hS3 => kk H3 locs3 ls2 S2 (lv_sub hl2 [2, 3, 4, 5, 6] rfl) hP3 hS3 hJ2)
set_option maxRecDepth 20000 in
theorem lc_state (C : LC p l s m meth c b L xs D ad cy sa) (hi : i + 3 < L) (hl : lv_has ls 7 (lw_lv b i ad)) (hP : va_P D vwCl (ab_wl ad cy S) H) (hS : va_S (ab_A s.heap.size) s.heap H locs) (hJ : Jv S) (hce : cells ≤ 2000) (hsl : slots ≤ 12000)
    (kk : ∀ (H1 : Heap) (locs1 : List Loc) (ls1 : Array Slot) (S1 : ab_S), lv_has ls1 7 (lw_lv b i ad) → va_P D vwCl (ab_wl ad cy S1) H1 → va_S (ab_A s.heap.size) s.heap H1 locs1 → Jv S1 → W p l e room_1 s m #[.ref b] below meth c H1 locs1 (cells + 4) (slots + 24) Q (F0 m 1146 ls1 [])) : W p l e room_1 s m #[.ref b] below meth c H locs cells slots Q (F0 m 1022 ls []) := by
  obtain ⟨C0, hL, hlt, hKn, hwK, h00, h21, h41⟩ := id C
  obtain ⟨hx, hb, hr, hml, hown, hts0, hX, hbl, hlocks, hgv⟩ := id C0
  have hts : ∀ w ∈ wsL_law, w.before #[Value.ref b] s = true := fun w h => hts0 w (wsL_law_in w h)
  refine lv_aload_n hx hb dL_law_1022 rfl (lv_at hl 3 rfl) ?_
  refine lw_arg (k := 1) hx hb hX hbl hS hL (by omega) (lv_at hl 4 rfl) (lv_at hl 0 rfl) (by decide) dL_law_1023 dL_law_1024 dL_law_1026 dL_law_1027 dL_law_1028 ?_
  refine lv_aload_n hx hb dL_law_1029 rfl (lv_at hl 1 rfl) ?_
  have hτ := lw_qI (X := fun E => (E, cd1 E) ∈ cdl_state ∧ cd1 E ≠ 0) (cdl := cdl_state) (op_state (x1 := xs (i + 1)) hJ) (tw_X5_state (by decide)) (fun E h => h) tw_X6_state kp_X6_state
  have hoks : ab_oks ad [.inr (0, 0), .inl (xs (i + 1)), .inr (41, 0)] := by
    intro v hv
    simp only [List.mem_cons, List.not_mem_nil, or_false] at hv
    rcases hv with rfl | rfl | rfl
    · exact h00
    · exact trivial
    · exact h41
  refine va_calli (a := #[]) (vx_runSW (R := room_1) (As := [.ref (ad (0, 0)), .int (xs (i + 1)), .ref (ad (41, 0))]) (rest := []) (g := F0 m 1030 ls (([.ref (ad (0, 0)), .int (xs (i + 1)), .ref (ad (41, 0))] : List Value).reverse ++ [])) ⟨hx, hb, hml, hown, hts⟩ (wr_state l hlt D ad s.heap.size cy sa _ S _ hτ) (vx_cwSW 3 hts gL_law_L_state rfl rfl rfl ⟨by decide +kernel, by decide +kernel, by decide +kernel⟩ (by decide)) ⟨wr_blind _ _ _ _ _ _ _, fun U hU hW => ⟨rfl, hoks, by rw [hU]; exact hS.1, by rw [hU]; exact hP, ab_Kn.warm hW (by rw [hU]; exact hS.2.1) hKn, hwK.moved hW.alike⟩⟩ rfl rfl hl.1 rfl (lv_room (Nat.le_of_ble_eq_true rfl)) dL_law_1030 ⟨by show cells + 1 ≤ 600128; omega, by show slots + 6 ≤ 7301098; omega⟩) hS (fun q _ h => h) (fun q h => h) (fun r S1 t1 H1 locs1 ht1 _ hp1 hB1 _ _ hS1 => ?_)
  have hP1 : va_P D vwCl (ab_wl ad cy S1) H1 := by rw [← ht1]; exact hB1
  refine lv_istore hx hb dL_law_1033 hl (by decide) rfl (fun ls1 hl1 => ?_)
  have hl1 : lv_has ls1 7 ((5, .int r) :: lw_lv b i ad) := hl1
  refine lv_aload_n hx hb dL_law_1035 rfl (lv_at hl1 3 rfl) ?_
  refine lw_arg (k := 1) hx hb hX hbl hS1 hL (by omega) (lv_at hl1 5 rfl) (lv_at hl1 1 rfl) (by decide) dL_law_1036 dL_law_1037 dL_law_1039 dL_law_1040 dL_law_1041 ?_
  unfold LQI at hp1
  have hrun := wr_run (R := room_1) (n := 1) (rest := []) (locs := locs1) (cells := cells + 1) (slots := slots + 6) (below := below) (e := e) (meth := meth) (ls := ls1) (pc := 1042) hx hb hml hown hts hKn (Nat.le_refl _) (so_X6_state l) gL_law_X6_state (21, 0) rfl rfl ⟨by decide +kernel, by decide +kernel, by decide +kernel⟩ (by decide) h21 rfl [.inl (xs (i + 1))] (by intro v hv; simp only [List.mem_cons, List.not_mem_nil, or_false] at hv; rcases hv with rfl <;> exact trivial) rfl (Nat.le_of_ble_eq_true rfl) hp1 hP1 hS1 hl1.1 dL_law_1042 (by show cells + 1 + 0 ≤ 600128; omega) (by show slots + 6 + 0 ≤ 7301098; omega)
  refine vx_calli (a := #[]) (S := ab_S) (SX := ab_S × Nat) hrun hS1 (fun q _ h => h) (fun q h => h) (fun q _ h => h) (fun E ce q9 u t H1 locs1 ht _ hpx _ _ _ _ _ _ _ => absurd rfl (hpx.1 u.2)) (fun r6 S2 t2 H2 locs2 ht2 _ hp2 hB2 _ _ hS2 => ?_)
  obtain ⟨-, hk41, hJ2, hth, hval⟩ := hp2
  have hP2 : va_P D vwCl (ab_wl ad cy S2) H2 := by rw [← ht2]; exact hB2
  refine W.widen (k := cells + 4) (n := slots + 24) (by show cells + 1 + 0 ≤ cells + 4; omega) (by show slots + 6 + 0 ≤ slots + 24; omega) ?_
  refine lv_istore hx hb dL_law_1045 hl1 (by decide) rfl (fun ls2 hl2 => ?_)
  have hl2 : lv_has ls2 7 ((6, .int r6) :: (5, .int r) :: lw_lv b i ad) := hl2
  have hv : r = 0 → r6 = S2 41 0 0 := fun z => by
    have := hval z
    rw [hk41]
    cases this
    rfl
  exact lw_tailI C hl2 hP2 hS2 (by omega) (by omega) hth hv dL_law_1047 dL_law_1048 dL_law_1051 dL_law_1053 dL_law_1058 dL_law_1060 dL_law_1063 dL_law_1064 dL_law_1065 dL_law_1066 dL_law_1068 dL_law_1069 dL_law_1070 dL_law_1075 (by decide) (fun H3 locs3 hP3 hS3 => kk H3 locs3 ls2 S2 (lv_sub hl2 [2, 3, 4, 5, 6] rfl) hP3 hS3 hJ2)
set_option maxRecDepth 20000 in
theorem lc_above (C : LC p l s m meth c b L xs D ad cy sa) (hi : i + 3 < L) (hl : lv_has ls 7 (lw_lv b i ad)) (hP : va_P D vwCl (ab_wl ad cy S) H) (hS : va_S (ab_A s.heap.size) s.heap H locs) (hJ : Jv S) (hce : cells ≤ 2000) (hsl : slots ≤ 12000)
    (kk : ∀ (H1 : Heap) (locs1 : List Loc) (ls1 : Array Slot) (S1 : ab_S), lv_has ls1 7 (lw_lv b i ad) → va_P D vwCl (ab_wl ad cy S1) H1 → va_S (ab_A s.heap.size) s.heap H1 locs1 → Jv S1 → W p l e room_1 s m #[.ref b] below meth c H1 locs1 (cells + 4) (slots + 24) Q (F0 m 1146 ls1 [])) : W p l e room_1 s m #[.ref b] below meth c H locs cells slots Q (F0 m 1078 ls []) := by
  obtain ⟨C0, hL, hlt, hKn, hwK, h00, h21, h41⟩ := id C
  obtain ⟨hx, hb, hr, hml, hown, hts0, hX, hbl, hlocks, hgv⟩ := id C0
  have hts : ∀ w ∈ wsL_law, w.before #[Value.ref b] s = true := fun w h => hts0 w (wsL_law_in w h)
  refine lv_aload_n hx hb dL_law_1078 rfl (lv_at hl 3 rfl) ?_
  refine lw_arg (k := 1) hx hb hX hbl hS hL (by omega) (lv_at hl 4 rfl) (lv_at hl 0 rfl) (by decide) dL_law_1079 dL_law_1080 dL_law_1082 dL_law_1083 dL_law_1084 ?_
  refine lw_arg (k := 2) hx hb hX hbl hS hL (by omega) (lv_at hl 4 rfl) (lv_at hl 0 rfl) (by decide) dL_law_1085 dL_law_1086 dL_law_1088 dL_law_1089 dL_law_1090 ?_
  refine lv_aload_n hx hb dL_law_1091 rfl (lv_at hl 1 rfl) ?_
  have hτ := lw_qI (X := fun E => (E, cd12 E) ∈ cdl_above ∧ cd12 E ≠ 0) (cdl := cdl_above) (op_above (x1 := xs (i + 1)) (x2 := xs (i + 2)) hJ) (tw_X5_above (by decide) (by decide)) (fun E h => h) tw_X6_above kp_X6_above
  have hoks : ab_oks ad [.inr (0, 0), .inl (xs (i + 1)), .inl (xs (i + 2)), .inr (41, 0)] := by
    intro v hv
    simp only [List.mem_cons, List.not_mem_nil, or_false] at hv
    rcases hv with rfl | rfl | rfl | rfl
    · exact h00
    · exact trivial
    · exact trivial
    · exact h41
  refine va_calli (a := #[]) (vx_runSW (R := room_1) (As := [.ref (ad (0, 0)), .int (xs (i + 1)), .int (xs (i + 2)), .ref (ad (41, 0))]) (rest := []) (g := F0 m 1092 ls (([.ref (ad (0, 0)), .int (xs (i + 1)), .int (xs (i + 2)), .ref (ad (41, 0))] : List Value).reverse ++ [])) ⟨hx, hb, hml, hown, hts⟩ (wr_above l hlt D ad s.heap.size cy sa _ _ S _ hτ) (vx_cwSW 4 hts gL_law_L_above rfl rfl rfl ⟨by decide +kernel, by decide +kernel, by decide +kernel⟩ (by decide)) ⟨wr_blind _ _ _ _ _ _ _, fun U hU hW => ⟨rfl, hoks, by rw [hU]; exact hS.1, by rw [hU]; exact hP, ab_Kn.warm hW (by rw [hU]; exact hS.2.1) hKn, hwK.moved hW.alike⟩⟩ rfl rfl hl.1 rfl (lv_room (Nat.le_of_ble_eq_true rfl)) dL_law_1092 ⟨by show cells + 2 ≤ 600128; omega, by show slots + 12 ≤ 7301098; omega⟩) hS (fun q _ h => h) (fun q h => h) (fun r S1 t1 H1 locs1 ht1 _ hp1 hB1 _ _ hS1 => ?_)
  have hP1 : va_P D vwCl (ab_wl ad cy S1) H1 := by rw [← ht1]; exact hB1
  refine lv_istore hx hb dL_law_1095 hl (by decide) rfl (fun ls1 hl1 => ?_)
  have hl1 : lv_has ls1 7 ((5, .int r) :: lw_lv b i ad) := hl1
  refine lv_aload_n hx hb dL_law_1097 rfl (lv_at hl1 3 rfl) ?_
  refine lw_arg (k := 1) hx hb hX hbl hS1 hL (by omega) (lv_at hl1 5 rfl) (lv_at hl1 1 rfl) (by decide) dL_law_1098 dL_law_1099 dL_law_1101 dL_law_1102 dL_law_1103 ?_
  refine lw_arg (k := 2) hx hb hX hbl hS1 hL (by omega) (lv_at hl1 5 rfl) (lv_at hl1 1 rfl) (by decide) dL_law_1104 dL_law_1105 dL_law_1107 dL_law_1108 dL_law_1109 ?_
  unfold LQI at hp1
  have hrun := wr_run (R := room_1) (n := 2) (rest := []) (locs := locs1) (cells := cells + 2) (slots := slots + 12) (below := below) (e := e) (meth := meth) (ls := ls1) (pc := 1110) hx hb hml hown hts hKn (Nat.le_refl _) (so_X6_above l) gL_law_X6_above (21, 0) rfl rfl ⟨by decide +kernel, by decide +kernel, by decide +kernel⟩ (by decide) h21 rfl [.inl (xs (i + 1)), .inl (xs (i + 2))] (by intro v hv; simp only [List.mem_cons, List.not_mem_nil, or_false] at hv; rcases hv with rfl | rfl <;> exact trivial) rfl (Nat.le_of_ble_eq_true rfl) hp1 hP1 hS1 hl1.1 dL_law_1110 (by show cells + 2 + 0 ≤ 600128; omega) (by show slots + 12 + 0 ≤ 7301098; omega)
  refine vx_calli (a := #[]) (S := ab_S) (SX := ab_S × Nat) hrun hS1 (fun q _ h => h) (fun q h => h) (fun q _ h => h) (fun E ce q9 u t H1 locs1 ht _ hpx _ _ _ _ _ _ _ => absurd rfl (hpx.1 u.2)) (fun r6 S2 t2 H2 locs2 ht2 _ hp2 hB2 _ _ hS2 => ?_)
  obtain ⟨-, hk41, hJ2, hth, hval⟩ := hp2
  have hP2 : va_P D vwCl (ab_wl ad cy S2) H2 := by rw [← ht2]; exact hB2
  refine W.widen (k := cells + 4) (n := slots + 24) (by show cells + 2 + 0 ≤ cells + 4; omega) (by show slots + 12 + 0 ≤ slots + 24; omega) ?_
  refine lv_istore hx hb dL_law_1113 hl1 (by decide) rfl (fun ls2 hl2 => ?_)
  have hl2 : lv_has ls2 7 ((6, .int r6) :: (5, .int r) :: lw_lv b i ad) := hl2
  have hv : r = 0 → r6 = S2 41 0 0 := fun z => by
    have := hval z
    rw [hk41]
    cases this
    rfl
  exact lw_tailI C hl2 hP2 hS2 (by omega) (by omega) hth hv dL_law_1115 dL_law_1116 dL_law_1119 dL_law_1121 dL_law_1126 dL_law_1128 dL_law_1131 dL_law_1132 dL_law_1133 dL_law_1134 dL_law_1136 dL_law_1137 dL_law_1138 dL_law_1143 (by decide) (fun H3 locs3 hP3 hS3 => kk H3 locs3 ls2 S2 (lv_sub hl2 [2, 3, 4, 5, 6] rfl) hP3 hS3 hJ2)
end LWC
