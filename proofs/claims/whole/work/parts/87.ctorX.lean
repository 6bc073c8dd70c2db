/-! The constructor of the model. -/
theorem cn_putI {p : Program} {l : Launch} {e : Env} {R : Room} {s : State} {m : MethodId} {args : Array Value} {below : List Frame} {meth : Method} {c : Code} {cc : ByteArray} {D : va_G} {base : Nat} {cy : Nat → ClassId} {sa : Nat → Nat} {own : String} {Ts : List Cond} {H : Heap} {locs : List Loc} {cells slots : Nat} {Q : State → Prop} {pc : Nat} {ls : Array Slot} {rest : List Value}
    (hx : p.tables.exec = Jvm.exec) (hb : c.code = cc) (hown : s.vm.findClass own = some m.cls) (hts : ∀ w ∈ Ts, w.before args s = true) (hK : cn_K D base cy sa s) {a ci N idx : Nat} {T : u_T} {fs : List Value} {as : va_W}
    (hP : va_P D vwCl ((a, .inr (ci, fs)) :: as) H) (hD : va_D (ab_A base) ((a, .inr (ci, fs)) :: as)) (hS : va_S (ab_A base) s.heap H locs) (hc : vwCl[ci]? = some (own, T, N)) (hin : ∀ w ∈ u_ws own T N, w ∈ Ts) (ty : Nat → FieldType) (hty : ∀ k, k < N → parseFieldDescriptor (T k).2.2.1 = some (ty k)) (hnm : ∀ a, a < N → ∀ b, b < N → a ≠ b → (T a).2.1 ≠ (T b).2.1)
    (k : Nat) (hk : k < N) (hkl : k < fs.length) (wl : Cond.fieldLink own idx (T k).1 (T k).2.1 (T k).2.2.1 ∈ Ts) (hf : (T k).2.2.2 = false) {x : Int32} (hfit : ty k = .int) (hdg : decode cc pc = .ok (.putfield idx, 3))
    (kk : ∀ (H1 : Heap) (locs1 : List Loc), va_P D vwCl ((a, .inr (ci, fs.set k (.int x))) :: as) H1 → va_D (ab_A base) ((a, .inr (ci, fs.set k (.int x))) :: as) → va_S (ab_A base) s.heap H1 locs1 → W p l e R s m args below meth c H1 locs1 cells slots Q (F0 m (pc + 3) ls rest)) : W p l e R s m args below meth c H locs cells slots Q (F0 m pc ls (.int x :: .ref a :: rest)) :=
  va_put hx hb hts hin ty hty hnm hown hK.1 hP hD hS 0 rfl hc k hk (hts _ wl) (fun x h => h) hf (hty k hk) (by rw [hfit]; rfl) (by rw [hfit]; rfl) hkl hdg kk
def cn_SM : ab_S := fun κ _ j => if κ = 21 then (if j = 5 then 1 else if j = 6 then 1 else if j = 11 then -1 else 0) else 0
def prMo : ab_Ob → Bool := fun o => decide (21 ≤ o.1) && decide (o.1 ≤ 40)
theorem prMo_cl : cn_clb prMo = true := by decide +kernel
theorem prMo_e : ∀ o ∈ ab_ids, (((List.range 20).map fun i => ((21 + i : Nat), (0 : Nat))).contains o || false) = prMo o := by decide +kernel
def rm_X6_init : Room := { frames := 2, cells := 480, slots := 2880, locals := 40 }
def M_X6_init : ab_M := (cX6_init, [(7, 21, 1), (17, 21, 3), (30, 21, 7), (33, 21, 8), (36, 21, 9)], [], (fun i => if i = 78 then some (5, 2, 0, 0, Sp_X6_copy) else none), (fun i => none), (fun i => none), [], [], (fun i => none), [], 0, 480)
set_option maxRecDepth 20000 in
theorem ok_X6_init (l : Launch) : ab_Ok l RX6 wsX6_init rm_X6_init 0 M_X6_init := by
  refine ⟨?_, ?_, ?_, ?_, ?_, ?_, ?_, ?_, ?_, ?_, ?_, ?_, ?_⟩
  · exact by decide
  · exact Or.inl rfl
  · exact by unfold ab_flok; decide +kernel
  · exact by unfold ab_plok ab_flok; decide +kernel
  · exact by decide +kernel
  · exact by
      intro idx rc n ri kc τ h
      simp only [M_X6_init, ab_cv, ab_cs, ab_cn] at h
      split at h
      · rename_i hi; subst hi; cases h; exact ⟨yX6_copy, cX6_copy, 4, _, wsX6_copy, _, rm_X6_copy, (so_X6_copy l), gX6_init_X6_copy, rfl, rfl, rfl, rfl, ⟨by decide +kernel, by decide +kernel, by decide +kernel⟩, by decide⟩
      cases h
  · exact fun _ _ _ _ _ _ h => ab_no h
  · exact fun _ _ _ _ _ _ h => ab_no h
  · exact by decide +kernel
  · exact by decide +kernel
  · exact fun _ _ h => ab_no h
  · exact by decide
  · exact by decide
theorem G_X6_init {G : ab_Gt} (hG : ab_Cl M_X6_init (fun o S' => o = .inl none ∧ JM S' g0) G) : G 177 [some (.inr (21, 0))] [] cn_SM 480 := by
  have c288 : (288 : Int32).toNatClampNeg = 288 := by decide
  refine ab_aload_n' hG 177 _ [] _ _ 0 (21, 0) dX6_init_177 rfl ?_
  refine ab_gR hG 178 _ [] _ _ 7 21 1 0 (22, 0) dX6_init_178 (by decide) rfl ?_
  refine ab_sipush' hG 181 _ _ _ _ 288 288 dX6_init_181 (by decide) ?_
  refine ab_iconst' hG 184 _ _ _ _ 1 1 dX6_init_184 (by decide) ?_
  refine ab_bastore' hG 185 _ [] _ _ 22 0 336 288 1 dX6_init_185 rfl (vp_in_nI (n := 288) (by decide) (by decide)) ?_
  generalize e1 : ab_su cn_SM 22 0 (288 : Int32).toNatClampNeg (vp_nar .boolean 1) = S1
  rw [c288, nar1] at e1
  refine ab_aload_n' hG 186 _ [] _ _ 0 (21, 0) dX6_init_186 rfl ?_
  refine ab_gR hG 187 _ [] _ _ 17 21 3 0 (24, 0) dX6_init_187 (by decide) rfl ?_
  refine ab_sipush' hG 190 _ _ _ _ 288 288 dX6_init_190 (by decide) ?_
  refine ab_iconst' hG 193 _ _ _ _ (-1) (-1) dX6_init_193 (by decide) ?_
  refine ab_iastore' hG 194 _ [] _ _ 24 0 336 288 (-1) dX6_init_194 rfl (vp_in_nI (n := 288) (by decide) (by decide)) ?_
  generalize e2 : ab_su S1 24 0 (288 : Int32).toNatClampNeg (-1) = S2
  rw [c288] at e2
  refine ab_aload_n' hG 195 _ [] _ _ 0 (21, 0) dX6_init_195 rfl ?_
  refine ab_bipush' hG 196 _ _ _ _ 12 12 dX6_init_196 (by decide) ?_
  refine ab_iconst' hG 198 _ _ _ _ 0 0 dX6_init_198 (by decide) ?_
  refine ab_invv' hG 199 _ [.inl 12, .inl 0] [] _ _ 78 5 2 0 0 _ (21, 0) dX6_init_199 rfl rfl rfl rfl (by decide) (by decide) ?_
  refine sp_m_copy (u := 12) (w := 0) (by decide) (by decide) (by decide) (fun S3 o3 c3 => ?_)
  have sl : ∀ (pc : Nat) (S : ab_S) (κ : Nat) (x : Int32) (idx f : Nat) (cI : Int), decode cX6_init pc = .ok (.aload_n 0, 1) → decode cX6_init (pc + 1) = .ok (.getfield idx, 3) → (idx, 21, f) ∈ ab_fl M_X6_init → ab_fr 21 f 0 = some (κ, 0) → decode cX6_init (pc + 4) = .ok (.iconst 0, 1) → decode cX6_init (pc + 5) = .ok (.iconst cI, 1) → Int32.ofInt cI = x → decode cX6_init (pc + 6) = .ok (.iastore, 1) → ab_ar κ = some (0, 12) → G (pc + 7) [some (.inr (21, 0))] [] (ab_su S κ 0 0 x) 480 → G pc [some (.inr (21, 0))] [] S 480 := by
    intro pc S κ x idx f cI h1 h2 h3 h4 h5 h6 h7 h8 h9 hk
    refine ab_aload_n' hG pc _ [] _ _ 0 (21, 0) h1 rfl ?_
    refine ab_gR hG (pc + 1) _ [] _ _ idx 21 f 0 (κ, 0) h2 h3 h4 ?_
    refine ab_iconst' hG (pc + 4) _ _ _ _ 0 0 h5 (by decide) ?_
    refine ab_iconst' hG (pc + 5) _ _ _ _ cI x h6 h7 ?_
    refine ab_iastore' hG (pc + 6) _ [] _ _ κ 0 12 0 x h8 h9 (pk_in 0 12 (by omega)) ?_
    rw [sb_cl0]; exact hk
  refine sl 202 S3 26 (-1) 30 7 (-1) dX6_init_202 dX6_init_203 (by decide) rfl dX6_init_206 dX6_init_207 (by decide) dX6_init_208 rfl ?_
  generalize e4 : ab_su S3 26 0 0 (-1) = S4
  refine sl 209 S4 27 (-1) 33 8 (-1) dX6_init_209 dX6_init_210 (by decide) rfl dX6_init_213 dX6_init_214 (by decide) dX6_init_215 rfl ?_
  generalize e5 : ab_su S4 27 0 0 (-1) = S5
  refine sl 216 S5 28 1 36 9 1 dX6_init_216 dX6_init_217 (by decide) rfl dX6_init_220 dX6_init_221 (by decide) dX6_init_222 rfl ?_
  generalize e6 : ab_su S5 28 0 0 1 = S6
  refine ab_return_' hG 223 _ S6 _ dX6_init_223 rfl (by decide) ⟨rfl, ?_⟩
  have kk : ∀ a b, (a ≠ 26 ∧ a ≠ 27 ∧ a ≠ 28) → S6 a b = S3 a b := fun a b z => by rw [← e6, su_o (by omega), ← e5, su_o (by omega), ← e4, su_o (by omega)]
  have k2 : ∀ a b, (a ≠ 22 ∧ a ≠ 24) → S2 a b = cn_SM a b := fun a b z => by rw [← e2, su_o (by omega), ← e1, su_o (by omega)]
  have h21 : ∀ j, S6 21 0 j = cn_SM 21 0 j := fun j => by rw [kk 21 0 (by omega), o3.1 21 0 (by omega), k2 21 0 (by omega)]
  have v22 : ∀ v, S2 22 0 (288 + v) = if v = 0 then 1 else 0 := fun v => by
    rw [← e2, su_o (by omega), ← e1]
    by_cases z : v = 0
    · subst z; rw [if_pos rfl]; exact su_at _ _ _ _ _
    · rw [if_neg z, su_j (by omega)]; rfl
  have v24 : S2 24 0 288 = -1 := by rw [← e2, su_at]
  have v23 : ∀ j, S2 23 0 j = 0 := fun j => by rw [k2 23 0 (by omega)]; rfl
  have v25 : ∀ j, S2 25 0 j = 0 := fun j => by rw [k2 25 0 (by omega)]; rfl
  have m12 : MTd S6 12 d0 := by
    have hk : ∀ a j, (a ≠ 26 ∧ a ≠ 27 ∧ a ≠ 28) → 24 ≤ j → S6 a 0 j = S2 a 0 j := fun a j z hj => by rw [kk a 0 z, o3.2 a j (by omega)]
    refine ⟨fun i hi => ⟨?_, ?_⟩, ⟨?_, ?_⟩, fun i h1 h2 => ?_, fun v hv hno => ?_⟩
    · rw [hk 22 _ (by omega) (by omega)]; exact v22 0
    · rw [hk 23 _ (by omega) (by omega), v23]; rfl
    · rw [hk 24 _ (by omega) (by omega)]; exact v24
    · rw [hk 25 _ (by omega) (by omega), v25]
    · have h : i < 1 := h2
      omega
    · have hv0 : v ≠ 0 := fun e => hno 0 (by decide) e.symm
      rw [hk 22 _ (by omega) (by omega)]
      exact (v22 v).trans (if_neg hv0)
  have m0 : MTd S6 0 d0 := by
    have z0 := c3 0 (by decide)
    refine ⟨fun i hi => ⟨?_, ?_⟩, ⟨?_, ?_⟩, fun i h1 h2 => ?_, fun v hv hno => ?_⟩
    · rw [kk 22 0 (by omega)]; exact z0.1.trans (by rw [show 24 * 12 + 0 = 288 + 0 from rfl, v22 0]; exact nar1)
    · rw [kk 23 0 (by omega)]; exact z0.2.1.trans (v23 _)
    · rw [kk 24 0 (by omega)]; exact z0.2.2.1.trans v24
    · rw [kk 25 0 (by omega)]; exact z0.2.2.2.trans (v25 _)
    · have h : i < 1 := h2
      omega
    · have hv0 : v ≠ 0 := fun e => hno 0 (by decide) e.symm
      rw [kk 22 0 (by omega)]
      refine (c3 v hv).1.trans ?_
      rw [show 24 * 12 + v = 288 + v by omega, v22 v, if_neg hv0]
      decide +kernel
  refine ⟨⟨(h21 5).trans rfl, (h21 6).trans rfl, (h21 10).trans rfl, (h21 11).trans rfl⟩, m12, fun c hc => ?_, (h21 12).trans rfl, fun k hk => absurd hk (by show ¬ k < 0; omega)⟩
  have hz : c = 0 := by have h : c < 1 := hc; omega
  subst hz
  refine ⟨m0, ?_, ?_, ?_⟩
  · rw [← e6, su_o (by omega), ← e5, su_o (by omega), ← e4, su_at]; rfl
  · rw [← e6, su_o (by omega), ← e5, su_at]; rfl
  · rw [← e6, su_at]; rfl

def fsX6 : List Value := [.int 0, .null, .null, .null, .null, .int 0, .int 0, .null, .null, .null, .int 0, .int 0, .int 0, .null, .null, .null, .null, .null, .int 0, .null, .null, .int 0, .null, .null, .null, .null, .null]
set_option maxRecDepth 20000 in
set_option maxHeartbeats 4000000 in
theorem cs_X6 (l : Launch) : cn_Sound l yX6_init wsX6_init rm_X6_init 5 fsX6 (21, 0) prMo (fun S => JM S g0) := by
  intro D a cy sa
  refine ab_ofx (XC := fun _ _ _ => False) (vx_ofW (cc := cX6_init) (maxL := 1) (ret := none) (by decide) rfl ?_) (fun _ _ _ h => h)
  intro p e s m args below meth c s₁ B hml hout hv
  obtain ⟨rfl, ha0, hat, hK⟩ := hv
  have hx := B.exec
  have hb := B.bytes
  have hr := B.returns
  have hts := atoms_spec (ws := wsX6_init) B.pre
  have hown : s.vm.findClass RX6 = some m.cls := findClass_of_methodNamed B.named
  have hlocks := B.notSynchronized
  have hin0 : meth.name = "<init>" := (name_of_methodNamed B.named B.method).1
  have hlt : a < s.heap.size := hat.lt
  have hbs : a ≤ s.heap.size := Nat.le_of_lt hlt
  have hS : va_S (ab_A a) s.heap s.heap [] := va_S.rf
  have hl := lv_entry ([.ref a]) (n := 1) (Nat.le_of_ble_eq_true rfl)
  rw [lg_entry_eq]
  generalize (lg_sl ([.ref a]) ++ List.replicate (1 - (lg_sl ([.ref a])).length) Slot.unset).toArray = ls at hl ⊢
  have hl : lv_has ls 1 [(0, .ref a)] := hl
  refine lv_aload_n hx hb dX6_init_0 rfl (lv_at hl 0 rfl) ?_
  refine W.objInit hx hb hown (hts (.methodLink RX6 1 objectInit) (by decide +kernel)) (hts (.instanceMethod objectInit) (by decide +kernel)) (hts _ (List.mem_of_getElem? (i := 3) rfl)) rfl (by rw [hml]; exact hl.1) rfl dX6_init_1 (Nat.le_of_ble_eq_true rfl) (Nat.le_of_ble_eq_true rfl) ?_
  refine W.eq (g2 := F0 m 4 ls []) rfl ?_
  have hP : va_P D vwCl ((a, .inr (5, fsX6)) :: []) s.heap := cn_Piff.mpr fun q hq => by
    rcases List.mem_cons.mp hq with h | h
    · subst h; exact hat
    · cases h
  have hD : va_D (ab_A a) (((a, .inr (5, fsX6)) : Nat × va_E) :: []) := cn_Diff.mpr ⟨by simp, fun q hq => by
    rcases List.mem_cons.mp hq with h | h
    · subst h; exact Nat.le_refl a
    · cases h⟩
  have hc : vwCl[5]? = some (RX6, TX6, 27) := rfl
  have hin : ∀ w ∈ u_ws RX6 TX6 27, w ∈ wsX6_init := fun w h => List.mem_cons_of_mem _ (List.mem_append_right _ h)
  refine lv_aload_n hx hb dX6_init_4 rfl (lv_at hl 0 rfl) ?_
  refine lv_sipush hx hb dX6_init_5 (v := 336) (by decide) ?_
  refine cn_arr hx hb hown hts hK hbs hin0 hP hD hS hc hin tyX6 tyX6_ok nmX6 (aty := .boolean) 1 rfl rfl (by decide +kernel) rfl (N' := 336) (by decide) (by decide) (by decide) (Nat.le_of_ble_eq_true rfl) (Nat.le_of_ble_eq_true rfl) dX6_init_8 1 (by decide) (Nat.le_of_ble_eq_true rfl) (by decide +kernel) (by decide) (fun q => ⟨rfl, rfl⟩) dX6_init_10 (fun q0 H1 locs1 hq0 hP1 hD1 hS1 => ?_)
  have hP1 : va_P D vwCl ((a, .inr (5, [.int 0, .ref q0, .null, .null, .null, .int 0, .int 0, .null, .null, .null, .int 0, .int 0, .int 0, .null, .null, .null, .null, .null, .int 0, .null, .null, .int 0, .null, .null, .null, .null, .null])) :: [(q0, .inl (cy 1, 336, .inl (fun _ => 0)))]) H1 := hP1
  have hD1 : va_D (ab_A a) (((a, .inr (5, [.int 0, .ref q0, .null, .null, .null, .int 0, .int 0, .null, .null, .null, .int 0, .int 0, .int 0, .null, .null, .null, .null, .null, .int 0, .null, .null, .int 0, .null, .null, .null, .null, .null])) : Nat × va_E) :: [(q0, .inl (cy 1, 336, .inl (fun _ => 0)))]) := hD1
  refine lv_aload_n hx hb dX6_init_13 rfl (lv_at hl 0 rfl) ?_
  refine lv_sipush hx hb dX6_init_14 (v := 336) (by decide) ?_
  refine cn_arr hx hb hown hts hK hbs hin0 hP1 hD1 hS1 hc hin tyX6 tyX6_ok nmX6 (aty := .int) 0 rfl rfl (by decide +kernel) rfl (N' := 336) (by decide) (by decide) (by decide) (Nat.le_of_ble_eq_true rfl) (Nat.le_of_ble_eq_true rfl) dX6_init_17 2 (by decide) (Nat.le_of_ble_eq_true rfl) (by decide +kernel) (by decide) (fun q => ⟨rfl, rfl⟩) dX6_init_19 (fun q1 H2 locs2 hq1 hP2 hD2 hS2 => ?_)
  have hP2 : va_P D vwCl ((a, .inr (5, [.int 0, .ref q0, .ref q1, .null, .null, .int 0, .int 0, .null, .null, .null, .int 0, .int 0, .int 0, .null, .null, .null, .null, .null, .int 0, .null, .null, .int 0, .null, .null, .null, .null, .null])) :: [(q0, .inl (cy 1, 336, .inl (fun _ => 0))), (q1, .inl (cy 0, 336, .inl (fun _ => 0)))]) H2 := hP2
  have hD2 : va_D (ab_A a) (((a, .inr (5, [.int 0, .ref q0, .ref q1, .null, .null, .int 0, .int 0, .null, .null, .null, .int 0, .int 0, .int 0, .null, .null, .null, .null, .null, .int 0, .null, .null, .int 0, .null, .null, .null, .null, .null])) : Nat × va_E) :: [(q0, .inl (cy 1, 336, .inl (fun _ => 0))), (q1, .inl (cy 0, 336, .inl (fun _ => 0)))]) := hD2
  clear hP1 hD1 hS1
  refine lv_aload_n hx hb dX6_init_22 rfl (lv_at hl 0 rfl) ?_
  refine lv_sipush hx hb dX6_init_23 (v := 336) (by decide) ?_
  refine cn_arr hx hb hown hts hK hbs hin0 hP2 hD2 hS2 hc hin tyX6 tyX6_ok nmX6 (aty := .int) 0 rfl rfl (by decide +kernel) rfl (N' := 336) (by decide) (by decide) (by decide) (Nat.le_of_ble_eq_true rfl) (Nat.le_of_ble_eq_true rfl) dX6_init_26 3 (by decide) (Nat.le_of_ble_eq_true rfl) (by decide +kernel) (by decide) (fun q => ⟨rfl, rfl⟩) dX6_init_28 (fun q2 H3 locs3 hq2 hP3 hD3 hS3 => ?_)
  have hP3 : va_P D vwCl ((a, .inr (5, [.int 0, .ref q0, .ref q1, .ref q2, .null, .int 0, .int 0, .null, .null, .null, .int 0, .int 0, .int 0, .null, .null, .null, .null, .null, .int 0, .null, .null, .int 0, .null, .null, .null, .null, .null])) :: [(q0, .inl (cy 1, 336, .inl (fun _ => 0))), (q1, .inl (cy 0, 336, .inl (fun _ => 0))), (q2, .inl (cy 0, 336, .inl (fun _ => 0)))]) H3 := hP3
  have hD3 : va_D (ab_A a) (((a, .inr (5, [.int 0, .ref q0, .ref q1, .ref q2, .null, .int 0, .int 0, .null, .null, .null, .int 0, .int 0, .int 0, .null, .null, .null, .null, .null, .int 0, .null, .null, .int 0, .null, .null, .null, .null, .null])) : Nat × va_E) :: [(q0, .inl (cy 1, 336, .inl (fun _ => 0))), (q1, .inl (cy 0, 336, .inl (fun _ => 0))), (q2, .inl (cy 0, 336, .inl (fun _ => 0)))]) := hD3
  clear hP2 hD2 hS2
  refine lv_aload_n hx hb dX6_init_31 rfl (lv_at hl 0 rfl) ?_
  refine lv_sipush hx hb dX6_init_32 (v := 336) (by decide) ?_
  refine cn_arr hx hb hown hts hK hbs hin0 hP3 hD3 hS3 hc hin tyX6 tyX6_ok nmX6 (aty := .int) 0 rfl rfl (by decide +kernel) rfl (N' := 336) (by decide) (by decide) (by decide) (Nat.le_of_ble_eq_true rfl) (Nat.le_of_ble_eq_true rfl) dX6_init_35 4 (by decide) (Nat.le_of_ble_eq_true rfl) (by decide +kernel) (by decide) (fun q => ⟨rfl, rfl⟩) dX6_init_37 (fun q3 H4 locs4 hq3 hP4 hD4 hS4 => ?_)
  have hP4 : va_P D vwCl ((a, .inr (5, [.int 0, .ref q0, .ref q1, .ref q2, .ref q3, .int 0, .int 0, .null, .null, .null, .int 0, .int 0, .int 0, .null, .null, .null, .null, .null, .int 0, .null, .null, .int 0, .null, .null, .null, .null, .null])) :: [(q0, .inl (cy 1, 336, .inl (fun _ => 0))), (q1, .inl (cy 0, 336, .inl (fun _ => 0))), (q2, .inl (cy 0, 336, .inl (fun _ => 0))), (q3, .inl (cy 0, 336, .inl (fun _ => 0)))]) H4 := hP4
  have hD4 : va_D (ab_A a) (((a, .inr (5, [.int 0, .ref q0, .ref q1, .ref q2, .ref q3, .int 0, .int 0, .null, .null, .null, .int 0, .int 0, .int 0, .null, .null, .null, .null, .null, .int 0, .null, .null, .int 0, .null, .null, .null, .null, .null])) : Nat × va_E) :: [(q0, .inl (cy 1, 336, .inl (fun _ => 0))), (q1, .inl (cy 0, 336, .inl (fun _ => 0))), (q2, .inl (cy 0, 336, .inl (fun _ => 0))), (q3, .inl (cy 0, 336, .inl (fun _ => 0)))]) := hD4
  clear hP3 hD3 hS3
  refine lv_aload_n hx hb dX6_init_40 rfl (lv_at hl 0 rfl) ?_
  refine lv_iconst hx hb dX6_init_41 (v := (1)) (by decide) ?_
  refine cn_putI hx hb hown hts hK hP4 hD4 hS4 hc hin tyX6 tyX6_ok nmX6 5 (by decide) (Nat.le_of_ble_eq_true rfl) (by decide +kernel) rfl rfl dX6_init_42 (fun H5 locs5 hP5 hD5 hS5 => ?_)
  have hP5 : va_P D vwCl ((a, .inr (5, [.int 0, .ref q0, .ref q1, .ref q2, .ref q3, .int (1), .int 0, .null, .null, .null, .int 0, .int 0, .int 0, .null, .null, .null, .null, .null, .int 0, .null, .null, .int 0, .null, .null, .null, .null, .null])) :: [(q0, .inl (cy 1, 336, .inl (fun _ => 0))), (q1, .inl (cy 0, 336, .inl (fun _ => 0))), (q2, .inl (cy 0, 336, .inl (fun _ => 0))), (q3, .inl (cy 0, 336, .inl (fun _ => 0)))]) H5 := hP5
  have hD5 : va_D (ab_A a) (((a, .inr (5, [.int 0, .ref q0, .ref q1, .ref q2, .ref q3, .int (1), .int 0, .null, .null, .null, .int 0, .int 0, .int 0, .null, .null, .null, .null, .null, .int 0, .null, .null, .int 0, .null, .null, .null, .null, .null])) : Nat × va_E) :: [(q0, .inl (cy 1, 336, .inl (fun _ => 0))), (q1, .inl (cy 0, 336, .inl (fun _ => 0))), (q2, .inl (cy 0, 336, .inl (fun _ => 0))), (q3, .inl (cy 0, 336, .inl (fun _ => 0)))]) := hD5
  clear hP4 hD4 hS4
  refine lv_aload_n hx hb dX6_init_45 rfl (lv_at hl 0 rfl) ?_
  refine lv_iconst hx hb dX6_init_46 (v := (1)) (by decide) ?_
  refine cn_putI hx hb hown hts hK hP5 hD5 hS5 hc hin tyX6 tyX6_ok nmX6 6 (by decide) (Nat.le_of_ble_eq_true rfl) (by decide +kernel) rfl rfl dX6_init_47 (fun H6 locs6 hP6 hD6 hS6 => ?_)
  have hP6 : va_P D vwCl ((a, .inr (5, [.int 0, .ref q0, .ref q1, .ref q2, .ref q3, .int (1), .int (1), .null, .null, .null, .int 0, .int 0, .int 0, .null, .null, .null, .null, .null, .int 0, .null, .null, .int 0, .null, .null, .null, .null, .null])) :: [(q0, .inl (cy 1, 336, .inl (fun _ => 0))), (q1, .inl (cy 0, 336, .inl (fun _ => 0))), (q2, .inl (cy 0, 336, .inl (fun _ => 0))), (q3, .inl (cy 0, 336, .inl (fun _ => 0)))]) H6 := hP6
  have hD6 : va_D (ab_A a) (((a, .inr (5, [.int 0, .ref q0, .ref q1, .ref q2, .ref q3, .int (1), .int (1), .null, .null, .null, .int 0, .int 0, .int 0, .null, .null, .null, .null, .null, .int 0, .null, .null, .int 0, .null, .null, .null, .null, .null])) : Nat × va_E) :: [(q0, .inl (cy 1, 336, .inl (fun _ => 0))), (q1, .inl (cy 0, 336, .inl (fun _ => 0))), (q2, .inl (cy 0, 336, .inl (fun _ => 0))), (q3, .inl (cy 0, 336, .inl (fun _ => 0)))]) := hD6
  clear hP5 hD5 hS5
  refine lv_aload_n hx hb dX6_init_50 rfl (lv_at hl 0 rfl) ?_
  refine lv_bipush hx hb dX6_init_51 (v := 12) (by decide) ?_
  refine cn_arr hx hb hown hts hK hbs hin0 hP6 hD6 hS6 hc hin tyX6 tyX6_ok nmX6 (aty := .int) 0 rfl rfl (by decide +kernel) rfl (N' := 12) (by decide) (by decide) (by decide) (Nat.le_of_ble_eq_true rfl) (Nat.le_of_ble_eq_true rfl) dX6_init_53 7 (by decide) (Nat.le_of_ble_eq_true rfl) (by decide +kernel) (by decide) (fun q => ⟨rfl, rfl⟩) dX6_init_55 (fun q4 H7 locs7 hq4 hP7 hD7 hS7 => ?_)
  have hP7 : va_P D vwCl ((a, .inr (5, [.int 0, .ref q0, .ref q1, .ref q2, .ref q3, .int (1), .int (1), .ref q4, .null, .null, .int 0, .int 0, .int 0, .null, .null, .null, .null, .null, .int 0, .null, .null, .int 0, .null, .null, .null, .null, .null])) :: [(q0, .inl (cy 1, 336, .inl (fun _ => 0))), (q1, .inl (cy 0, 336, .inl (fun _ => 0))), (q2, .inl (cy 0, 336, .inl (fun _ => 0))), (q3, .inl (cy 0, 336, .inl (fun _ => 0))), (q4, .inl (cy 0, 12, .inl (fun _ => 0)))]) H7 := hP7
  have hD7 : va_D (ab_A a) (((a, .inr (5, [.int 0, .ref q0, .ref q1, .ref q2, .ref q3, .int (1), .int (1), .ref q4, .null, .null, .int 0, .int 0, .int 0, .null, .null, .null, .null, .null, .int 0, .null, .null, .int 0, .null, .null, .null, .null, .null])) : Nat × va_E) :: [(q0, .inl (cy 1, 336, .inl (fun _ => 0))), (q1, .inl (cy 0, 336, .inl (fun _ => 0))), (q2, .inl (cy 0, 336, .inl (fun _ => 0))), (q3, .inl (cy 0, 336, .inl (fun _ => 0))), (q4, .inl (cy 0, 12, .inl (fun _ => 0)))]) := hD7
  clear hP6 hD6 hS6
  refine lv_aload_n hx hb dX6_init_58 rfl (lv_at hl 0 rfl) ?_
  refine lv_bipush hx hb dX6_init_59 (v := 12) (by decide) ?_
  refine cn_arr hx hb hown hts hK hbs hin0 hP7 hD7 hS7 hc hin tyX6 tyX6_ok nmX6 (aty := .int) 0 rfl rfl (by decide +kernel) rfl (N' := 12) (by decide) (by decide) (by decide) (Nat.le_of_ble_eq_true rfl) (Nat.le_of_ble_eq_true rfl) dX6_init_61 8 (by decide) (Nat.le_of_ble_eq_true rfl) (by decide +kernel) (by decide) (fun q => ⟨rfl, rfl⟩) dX6_init_63 (fun q5 H8 locs8 hq5 hP8 hD8 hS8 => ?_)
  have hP8 : va_P D vwCl ((a, .inr (5, [.int 0, .ref q0, .ref q1, .ref q2, .ref q3, .int (1), .int (1), .ref q4, .ref q5, .null, .int 0, .int 0, .int 0, .null, .null, .null, .null, .null, .int 0, .null, .null, .int 0, .null, .null, .null, .null, .null])) :: [(q0, .inl (cy 1, 336, .inl (fun _ => 0))), (q1, .inl (cy 0, 336, .inl (fun _ => 0))), (q2, .inl (cy 0, 336, .inl (fun _ => 0))), (q3, .inl (cy 0, 336, .inl (fun _ => 0))), (q4, .inl (cy 0, 12, .inl (fun _ => 0))), (q5, .inl (cy 0, 12, .inl (fun _ => 0)))]) H8 := hP8
  have hD8 : va_D (ab_A a) (((a, .inr (5, [.int 0, .ref q0, .ref q1, .ref q2, .ref q3, .int (1), .int (1), .ref q4, .ref q5, .null, .int 0, .int 0, .int 0, .null, .null, .null, .null, .null, .int 0, .null, .null, .int 0, .null, .null, .null, .null, .null])) : Nat × va_E) :: [(q0, .inl (cy 1, 336, .inl (fun _ => 0))), (q1, .inl (cy 0, 336, .inl (fun _ => 0))), (q2, .inl (cy 0, 336, .inl (fun _ => 0))), (q3, .inl (cy 0, 336, .inl (fun _ => 0))), (q4, .inl (cy 0, 12, .inl (fun _ => 0))), (q5, .inl (cy 0, 12, .inl (fun _ => 0)))]) := hD8
  clear hP7 hD7 hS7
  refine lv_aload_n hx hb dX6_init_66 rfl (lv_at hl 0 rfl) ?_
  refine lv_bipush hx hb dX6_init_67 (v := 12) (by decide) ?_
  refine cn_arr hx hb hown hts hK hbs hin0 hP8 hD8 hS8 hc hin tyX6 tyX6_ok nmX6 (aty := .int) 0 rfl rfl (by decide +kernel) rfl (N' := 12) (by decide) (by decide) (by decide) (Nat.le_of_ble_eq_true rfl) (Nat.le_of_ble_eq_true rfl) dX6_init_69 9 (by decide) (Nat.le_of_ble_eq_true rfl) (by decide +kernel) (by decide) (fun q => ⟨rfl, rfl⟩) dX6_init_71 (fun q6 H9 locs9 hq6 hP9 hD9 hS9 => ?_)
  have hP9 : va_P D vwCl ((a, .inr (5, [.int 0, .ref q0, .ref q1, .ref q2, .ref q3, .int (1), .int (1), .ref q4, .ref q5, .ref q6, .int 0, .int 0, .int 0, .null, .null, .null, .null, .null, .int 0, .null, .null, .int 0, .null, .null, .null, .null, .null])) :: [(q0, .inl (cy 1, 336, .inl (fun _ => 0))), (q1, .inl (cy 0, 336, .inl (fun _ => 0))), (q2, .inl (cy 0, 336, .inl (fun _ => 0))), (q3, .inl (cy 0, 336, .inl (fun _ => 0))), (q4, .inl (cy 0, 12, .inl (fun _ => 0))), (q5, .inl (cy 0, 12, .inl (fun _ => 0))), (q6, .inl (cy 0, 12, .inl (fun _ => 0)))]) H9 := hP9
  have hD9 : va_D (ab_A a) (((a, .inr (5, [.int 0, .ref q0, .ref q1, .ref q2, .ref q3, .int (1), .int (1), .ref q4, .ref q5, .ref q6, .int 0, .int 0, .int 0, .null, .null, .null, .null, .null, .int 0, .null, .null, .int 0, .null, .null, .null, .null, .null])) : Nat × va_E) :: [(q0, .inl (cy 1, 336, .inl (fun _ => 0))), (q1, .inl (cy 0, 336, .inl (fun _ => 0))), (q2, .inl (cy 0, 336, .inl (fun _ => 0))), (q3, .inl (cy 0, 336, .inl (fun _ => 0))), (q4, .inl (cy 0, 12, .inl (fun _ => 0))), (q5, .inl (cy 0, 12, .inl (fun _ => 0))), (q6, .inl (cy 0, 12, .inl (fun _ => 0)))]) := hD9
  clear hP8 hD8 hS8
  refine lv_aload_n hx hb dX6_init_74 rfl (lv_at hl 0 rfl) ?_
  refine lv_iconst hx hb dX6_init_75 (v := (-1)) (by decide) ?_
  refine cn_putI hx hb hown hts hK hP9 hD9 hS9 hc hin tyX6 tyX6_ok nmX6 11 (by decide) (Nat.le_of_ble_eq_true rfl) (by decide +kernel) rfl rfl dX6_init_76 (fun H10 locs10 hP10 hD10 hS10 => ?_)
  have hP10 : va_P D vwCl ((a, .inr (5, [.int 0, .ref q0, .ref q1, .ref q2, .ref q3, .int (1), .int (1), .ref q4, .ref q5, .ref q6, .int 0, .int (-1), .int 0, .null, .null, .null, .null, .null, .int 0, .null, .null, .int 0, .null, .null, .null, .null, .null])) :: [(q0, .inl (cy 1, 336, .inl (fun _ => 0))), (q1, .inl (cy 0, 336, .inl (fun _ => 0))), (q2, .inl (cy 0, 336, .inl (fun _ => 0))), (q3, .inl (cy 0, 336, .inl (fun _ => 0))), (q4, .inl (cy 0, 12, .inl (fun _ => 0))), (q5, .inl (cy 0, 12, .inl (fun _ => 0))), (q6, .inl (cy 0, 12, .inl (fun _ => 0)))]) H10 := hP10
  have hD10 : va_D (ab_A a) (((a, .inr (5, [.int 0, .ref q0, .ref q1, .ref q2, .ref q3, .int (1), .int (1), .ref q4, .ref q5, .ref q6, .int 0, .int (-1), .int 0, .null, .null, .null, .null, .null, .int 0, .null, .null, .int 0, .null, .null, .null, .null, .null])) : Nat × va_E) :: [(q0, .inl (cy 1, 336, .inl (fun _ => 0))), (q1, .inl (cy 0, 336, .inl (fun _ => 0))), (q2, .inl (cy 0, 336, .inl (fun _ => 0))), (q3, .inl (cy 0, 336, .inl (fun _ => 0))), (q4, .inl (cy 0, 12, .inl (fun _ => 0))), (q5, .inl (cy 0, 12, .inl (fun _ => 0))), (q6, .inl (cy 0, 12, .inl (fun _ => 0)))]) := hD10
  clear hP9 hD9 hS9
  refine lv_aload_n hx hb dX6_init_79 rfl (lv_at hl 0 rfl) ?_
  refine lv_bipush hx hb dX6_init_80 (v := 24) (by decide) ?_
  refine cn_arr hx hb hown hts hK hbs hin0 hP10 hD10 hS10 hc hin tyX6 tyX6_ok nmX6 (aty := .int) 0 rfl rfl (by decide +kernel) rfl (N' := 24) (by decide) (by decide) (by decide) (Nat.le_of_ble_eq_true rfl) (Nat.le_of_ble_eq_true rfl) dX6_init_82 13 (by decide) (Nat.le_of_ble_eq_true rfl) (by decide +kernel) (by decide) (fun q => ⟨rfl, rfl⟩) dX6_init_84 (fun q7 H11 locs11 hq7 hP11 hD11 hS11 => ?_)
  have hP11 : va_P D vwCl ((a, .inr (5, [.int 0, .ref q0, .ref q1, .ref q2, .ref q3, .int (1), .int (1), .ref q4, .ref q5, .ref q6, .int 0, .int (-1), .int 0, .ref q7, .null, .null, .null, .null, .int 0, .null, .null, .int 0, .null, .null, .null, .null, .null])) :: [(q0, .inl (cy 1, 336, .inl (fun _ => 0))), (q1, .inl (cy 0, 336, .inl (fun _ => 0))), (q2, .inl (cy 0, 336, .inl (fun _ => 0))), (q3, .inl (cy 0, 336, .inl (fun _ => 0))), (q4, .inl (cy 0, 12, .inl (fun _ => 0))), (q5, .inl (cy 0, 12, .inl (fun _ => 0))), (q6, .inl (cy 0, 12, .inl (fun _ => 0))), (q7, .inl (cy 0, 24, .inl (fun _ => 0)))]) H11 := hP11
  have hD11 : va_D (ab_A a) (((a, .inr (5, [.int 0, .ref q0, .ref q1, .ref q2, .ref q3, .int (1), .int (1), .ref q4, .ref q5, .ref q6, .int 0, .int (-1), .int 0, .ref q7, .null, .null, .null, .null, .int 0, .null, .null, .int 0, .null, .null, .null, .null, .null])) : Nat × va_E) :: [(q0, .inl (cy 1, 336, .inl (fun _ => 0))), (q1, .inl (cy 0, 336, .inl (fun _ => 0))), (q2, .inl (cy 0, 336, .inl (fun _ => 0))), (q3, .inl (cy 0, 336, .inl (fun _ => 0))), (q4, .inl (cy 0, 12, .inl (fun _ => 0))), (q5, .inl (cy 0, 12, .inl (fun _ => 0))), (q6, .inl (cy 0, 12, .inl (fun _ => 0))), (q7, .inl (cy 0, 24, .inl (fun _ => 0)))]) := hD11
  clear hP10 hD10 hS10
  refine lv_aload_n hx hb dX6_init_87 rfl (lv_at hl 0 rfl) ?_
  refine lv_bipush hx hb dX6_init_88 (v := 24) (by decide) ?_
  refine cn_arr hx hb hown hts hK hbs hin0 hP11 hD11 hS11 hc hin tyX6 tyX6_ok nmX6 (aty := .boolean) 1 rfl rfl (by decide +kernel) rfl (N' := 24) (by decide) (by decide) (by decide) (Nat.le_of_ble_eq_true rfl) (Nat.le_of_ble_eq_true rfl) dX6_init_90 14 (by decide) (Nat.le_of_ble_eq_true rfl) (by decide +kernel) (by decide) (fun q => ⟨rfl, rfl⟩) dX6_init_92 (fun q8 H12 locs12 hq8 hP12 hD12 hS12 => ?_)
  have hP12 : va_P D vwCl ((a, .inr (5, [.int 0, .ref q0, .ref q1, .ref q2, .ref q3, .int (1), .int (1), .ref q4, .ref q5, .ref q6, .int 0, .int (-1), .int 0, .ref q7, .ref q8, .null, .null, .null, .int 0, .null, .null, .int 0, .null, .null, .null, .null, .null])) :: [(q0, .inl (cy 1, 336, .inl (fun _ => 0))), (q1, .inl (cy 0, 336, .inl (fun _ => 0))), (q2, .inl (cy 0, 336, .inl (fun _ => 0))), (q3, .inl (cy 0, 336, .inl (fun _ => 0))), (q4, .inl (cy 0, 12, .inl (fun _ => 0))), (q5, .inl (cy 0, 12, .inl (fun _ => 0))), (q6, .inl (cy 0, 12, .inl (fun _ => 0))), (q7, .inl (cy 0, 24, .inl (fun _ => 0))), (q8, .inl (cy 1, 24, .inl (fun _ => 0)))]) H12 := hP12
  have hD12 : va_D (ab_A a) (((a, .inr (5, [.int 0, .ref q0, .ref q1, .ref q2, .ref q3, .int (1), .int (1), .ref q4, .ref q5, .ref q6, .int 0, .int (-1), .int 0, .ref q7, .ref q8, .null, .null, .null, .int 0, .null, .null, .int 0, .null, .null, .null, .null, .null])) : Nat × va_E) :: [(q0, .inl (cy 1, 336, .inl (fun _ => 0))), (q1, .inl (cy 0, 336, .inl (fun _ => 0))), (q2, .inl (cy 0, 336, .inl (fun _ => 0))), (q3, .inl (cy 0, 336, .inl (fun _ => 0))), (q4, .inl (cy 0, 12, .inl (fun _ => 0))), (q5, .inl (cy 0, 12, .inl (fun _ => 0))), (q6, .inl (cy 0, 12, .inl (fun _ => 0))), (q7, .inl (cy 0, 24, .inl (fun _ => 0))), (q8, .inl (cy 1, 24, .inl (fun _ => 0)))]) := hD12
  clear hP11 hD11 hS11
  refine lv_aload_n hx hb dX6_init_95 rfl (lv_at hl 0 rfl) ?_
  refine lv_bipush hx hb dX6_init_96 (v := 24) (by decide) ?_
  refine cn_arr hx hb hown hts hK hbs hin0 hP12 hD12 hS12 hc hin tyX6 tyX6_ok nmX6 (aty := .int) 0 rfl rfl (by decide +kernel) rfl (N' := 24) (by decide) (by decide) (by decide) (Nat.le_of_ble_eq_true rfl) (Nat.le_of_ble_eq_true rfl) dX6_init_98 15 (by decide) (Nat.le_of_ble_eq_true rfl) (by decide +kernel) (by decide) (fun q => ⟨rfl, rfl⟩) dX6_init_100 (fun q9 H13 locs13 hq9 hP13 hD13 hS13 => ?_)
  have hP13 : va_P D vwCl ((a, .inr (5, [.int 0, .ref q0, .ref q1, .ref q2, .ref q3, .int (1), .int (1), .ref q4, .ref q5, .ref q6, .int 0, .int (-1), .int 0, .ref q7, .ref q8, .ref q9, .null, .null, .int 0, .null, .null, .int 0, .null, .null, .null, .null, .null])) :: [(q0, .inl (cy 1, 336, .inl (fun _ => 0))), (q1, .inl (cy 0, 336, .inl (fun _ => 0))), (q2, .inl (cy 0, 336, .inl (fun _ => 0))), (q3, .inl (cy 0, 336, .inl (fun _ => 0))), (q4, .inl (cy 0, 12, .inl (fun _ => 0))), (q5, .inl (cy 0, 12, .inl (fun _ => 0))), (q6, .inl (cy 0, 12, .inl (fun _ => 0))), (q7, .inl (cy 0, 24, .inl (fun _ => 0))), (q8, .inl (cy 1, 24, .inl (fun _ => 0))), (q9, .inl (cy 0, 24, .inl (fun _ => 0)))]) H13 := hP13
  have hD13 : va_D (ab_A a) (((a, .inr (5, [.int 0, .ref q0, .ref q1, .ref q2, .ref q3, .int (1), .int (1), .ref q4, .ref q5, .ref q6, .int 0, .int (-1), .int 0, .ref q7, .ref q8, .ref q9, .null, .null, .int 0, .null, .null, .int 0, .null, .null, .null, .null, .null])) : Nat × va_E) :: [(q0, .inl (cy 1, 336, .inl (fun _ => 0))), (q1, .inl (cy 0, 336, .inl (fun _ => 0))), (q2, .inl (cy 0, 336, .inl (fun _ => 0))), (q3, .inl (cy 0, 336, .inl (fun _ => 0))), (q4, .inl (cy 0, 12, .inl (fun _ => 0))), (q5, .inl (cy 0, 12, .inl (fun _ => 0))), (q6, .inl (cy 0, 12, .inl (fun _ => 0))), (q7, .inl (cy 0, 24, .inl (fun _ => 0))), (q8, .inl (cy 1, 24, .inl (fun _ => 0))), (q9, .inl (cy 0, 24, .inl (fun _ => 0)))]) := hD13
  clear hP12 hD12 hS12
  refine lv_aload_n hx hb dX6_init_103 rfl (lv_at hl 0 rfl) ?_
  refine lv_bipush hx hb dX6_init_104 (v := 24) (by decide) ?_
  refine cn_arr hx hb hown hts hK hbs hin0 hP13 hD13 hS13 hc hin tyX6 tyX6_ok nmX6 (aty := .int) 0 rfl rfl (by decide +kernel) rfl (N' := 24) (by decide) (by decide) (by decide) (Nat.le_of_ble_eq_true rfl) (Nat.le_of_ble_eq_true rfl) dX6_init_106 16 (by decide) (Nat.le_of_ble_eq_true rfl) (by decide +kernel) (by decide) (fun q => ⟨rfl, rfl⟩) dX6_init_108 (fun q10 H14 locs14 hq10 hP14 hD14 hS14 => ?_)
  have hP14 : va_P D vwCl ((a, .inr (5, [.int 0, .ref q0, .ref q1, .ref q2, .ref q3, .int (1), .int (1), .ref q4, .ref q5, .ref q6, .int 0, .int (-1), .int 0, .ref q7, .ref q8, .ref q9, .ref q10, .null, .int 0, .null, .null, .int 0, .null, .null, .null, .null, .null])) :: [(q0, .inl (cy 1, 336, .inl (fun _ => 0))), (q1, .inl (cy 0, 336, .inl (fun _ => 0))), (q2, .inl (cy 0, 336, .inl (fun _ => 0))), (q3, .inl (cy 0, 336, .inl (fun _ => 0))), (q4, .inl (cy 0, 12, .inl (fun _ => 0))), (q5, .inl (cy 0, 12, .inl (fun _ => 0))), (q6, .inl (cy 0, 12, .inl (fun _ => 0))), (q7, .inl (cy 0, 24, .inl (fun _ => 0))), (q8, .inl (cy 1, 24, .inl (fun _ => 0))), (q9, .inl (cy 0, 24, .inl (fun _ => 0))), (q10, .inl (cy 0, 24, .inl (fun _ => 0)))]) H14 := hP14
  have hD14 : va_D (ab_A a) (((a, .inr (5, [.int 0, .ref q0, .ref q1, .ref q2, .ref q3, .int (1), .int (1), .ref q4, .ref q5, .ref q6, .int 0, .int (-1), .int 0, .ref q7, .ref q8, .ref q9, .ref q10, .null, .int 0, .null, .null, .int 0, .null, .null, .null, .null, .null])) : Nat × va_E) :: [(q0, .inl (cy 1, 336, .inl (fun _ => 0))), (q1, .inl (cy 0, 336, .inl (fun _ => 0))), (q2, .inl (cy 0, 336, .inl (fun _ => 0))), (q3, .inl (cy 0, 336, .inl (fun _ => 0))), (q4, .inl (cy 0, 12, .inl (fun _ => 0))), (q5, .inl (cy 0, 12, .inl (fun _ => 0))), (q6, .inl (cy 0, 12, .inl (fun _ => 0))), (q7, .inl (cy 0, 24, .inl (fun _ => 0))), (q8, .inl (cy 1, 24, .inl (fun _ => 0))), (q9, .inl (cy 0, 24, .inl (fun _ => 0))), (q10, .inl (cy 0, 24, .inl (fun _ => 0)))]) := hD14
  clear hP13 hD13 hS13
  refine lv_aload_n hx hb dX6_init_111 rfl (lv_at hl 0 rfl) ?_
  refine lv_bipush hx hb dX6_init_112 (v := 24) (by decide) ?_
  refine cn_arr hx hb hown hts hK hbs hin0 hP14 hD14 hS14 hc hin tyX6 tyX6_ok nmX6 (aty := .int) 0 rfl rfl (by decide +kernel) rfl (N' := 24) (by decide) (by decide) (by decide) (Nat.le_of_ble_eq_true rfl) (Nat.le_of_ble_eq_true rfl) dX6_init_114 17 (by decide) (Nat.le_of_ble_eq_true rfl) (by decide +kernel) (by decide) (fun q => ⟨rfl, rfl⟩) dX6_init_116 (fun q11 H15 locs15 hq11 hP15 hD15 hS15 => ?_)
  have hP15 : va_P D vwCl ((a, .inr (5, [.int 0, .ref q0, .ref q1, .ref q2, .ref q3, .int (1), .int (1), .ref q4, .ref q5, .ref q6, .int 0, .int (-1), .int 0, .ref q7, .ref q8, .ref q9, .ref q10, .ref q11, .int 0, .null, .null, .int 0, .null, .null, .null, .null, .null])) :: [(q0, .inl (cy 1, 336, .inl (fun _ => 0))), (q1, .inl (cy 0, 336, .inl (fun _ => 0))), (q2, .inl (cy 0, 336, .inl (fun _ => 0))), (q3, .inl (cy 0, 336, .inl (fun _ => 0))), (q4, .inl (cy 0, 12, .inl (fun _ => 0))), (q5, .inl (cy 0, 12, .inl (fun _ => 0))), (q6, .inl (cy 0, 12, .inl (fun _ => 0))), (q7, .inl (cy 0, 24, .inl (fun _ => 0))), (q8, .inl (cy 1, 24, .inl (fun _ => 0))), (q9, .inl (cy 0, 24, .inl (fun _ => 0))), (q10, .inl (cy 0, 24, .inl (fun _ => 0))), (q11, .inl (cy 0, 24, .inl (fun _ => 0)))]) H15 := hP15
  have hD15 : va_D (ab_A a) (((a, .inr (5, [.int 0, .ref q0, .ref q1, .ref q2, .ref q3, .int (1), .int (1), .ref q4, .ref q5, .ref q6, .int 0, .int (-1), .int 0, .ref q7, .ref q8, .ref q9, .ref q10, .ref q11, .int 0, .null, .null, .int 0, .null, .null, .null, .null, .null])) : Nat × va_E) :: [(q0, .inl (cy 1, 336, .inl (fun _ => 0))), (q1, .inl (cy 0, 336, .inl (fun _ => 0))), (q2, .inl (cy 0, 336, .inl (fun _ => 0))), (q3, .inl (cy 0, 336, .inl (fun _ => 0))), (q4, .inl (cy 0, 12, .inl (fun _ => 0))), (q5, .inl (cy 0, 12, .inl (fun _ => 0))), (q6, .inl (cy 0, 12, .inl (fun _ => 0))), (q7, .inl (cy 0, 24, .inl (fun _ => 0))), (q8, .inl (cy 1, 24, .inl (fun _ => 0))), (q9, .inl (cy 0, 24, .inl (fun _ => 0))), (q10, .inl (cy 0, 24, .inl (fun _ => 0))), (q11, .inl (cy 0, 24, .inl (fun _ => 0)))]) := hD15
  clear hP14 hD14 hS14
  refine lv_aload_n hx hb dX6_init_119 rfl (lv_at hl 0 rfl) ?_
  refine lv_bipush hx hb dX6_init_120 (v := 24) (by decide) ?_
  refine cn_arr hx hb hown hts hK hbs hin0 hP15 hD15 hS15 hc hin tyX6 tyX6_ok nmX6 (aty := .int) 0 rfl rfl (by decide +kernel) rfl (N' := 24) (by decide) (by decide) (by decide) (Nat.le_of_ble_eq_true rfl) (Nat.le_of_ble_eq_true rfl) dX6_init_122 19 (by decide) (Nat.le_of_ble_eq_true rfl) (by decide +kernel) (by decide) (fun q => ⟨rfl, rfl⟩) dX6_init_124 (fun q12 H16 locs16 hq12 hP16 hD16 hS16 => ?_)
  have hP16 : va_P D vwCl ((a, .inr (5, [.int 0, .ref q0, .ref q1, .ref q2, .ref q3, .int (1), .int (1), .ref q4, .ref q5, .ref q6, .int 0, .int (-1), .int 0, .ref q7, .ref q8, .ref q9, .ref q10, .ref q11, .int 0, .ref q12, .null, .int 0, .null, .null, .null, .null, .null])) :: [(q0, .inl (cy 1, 336, .inl (fun _ => 0))), (q1, .inl (cy 0, 336, .inl (fun _ => 0))), (q2, .inl (cy 0, 336, .inl (fun _ => 0))), (q3, .inl (cy 0, 336, .inl (fun _ => 0))), (q4, .inl (cy 0, 12, .inl (fun _ => 0))), (q5, .inl (cy 0, 12, .inl (fun _ => 0))), (q6, .inl (cy 0, 12, .inl (fun _ => 0))), (q7, .inl (cy 0, 24, .inl (fun _ => 0))), (q8, .inl (cy 1, 24, .inl (fun _ => 0))), (q9, .inl (cy 0, 24, .inl (fun _ => 0))), (q10, .inl (cy 0, 24, .inl (fun _ => 0))), (q11, .inl (cy 0, 24, .inl (fun _ => 0))), (q12, .inl (cy 0, 24, .inl (fun _ => 0)))]) H16 := hP16
  have hD16 : va_D (ab_A a) (((a, .inr (5, [.int 0, .ref q0, .ref q1, .ref q2, .ref q3, .int (1), .int (1), .ref q4, .ref q5, .ref q6, .int 0, .int (-1), .int 0, .ref q7, .ref q8, .ref q9, .ref q10, .ref q11, .int 0, .ref q12, .null, .int 0, .null, .null, .null, .null, .null])) : Nat × va_E) :: [(q0, .inl (cy 1, 336, .inl (fun _ => 0))), (q1, .inl (cy 0, 336, .inl (fun _ => 0))), (q2, .inl (cy 0, 336, .inl (fun _ => 0))), (q3, .inl (cy 0, 336, .inl (fun _ => 0))), (q4, .inl (cy 0, 12, .inl (fun _ => 0))), (q5, .inl (cy 0, 12, .inl (fun _ => 0))), (q6, .inl (cy 0, 12, .inl (fun _ => 0))), (q7, .inl (cy 0, 24, .inl (fun _ => 0))), (q8, .inl (cy 1, 24, .inl (fun _ => 0))), (q9, .inl (cy 0, 24, .inl (fun _ => 0))), (q10, .inl (cy 0, 24, .inl (fun _ => 0))), (q11, .inl (cy 0, 24, .inl (fun _ => 0))), (q12, .inl (cy 0, 24, .inl (fun _ => 0)))]) := hD16
  clear hP15 hD15 hS15
  refine lv_aload_n hx hb dX6_init_127 rfl (lv_at hl 0 rfl) ?_
  refine lv_bipush hx hb dX6_init_128 (v := 24) (by decide) ?_
  refine cn_arr hx hb hown hts hK hbs hin0 hP16 hD16 hS16 hc hin tyX6 tyX6_ok nmX6 (aty := .int) 0 rfl rfl (by decide +kernel) rfl (N' := 24) (by decide) (by decide) (by decide) (Nat.le_of_ble_eq_true rfl) (Nat.le_of_ble_eq_true rfl) dX6_init_130 20 (by decide) (Nat.le_of_ble_eq_true rfl) (by decide +kernel) (by decide) (fun q => ⟨rfl, rfl⟩) dX6_init_132 (fun q13 H17 locs17 hq13 hP17 hD17 hS17 => ?_)
  have hP17 : va_P D vwCl ((a, .inr (5, [.int 0, .ref q0, .ref q1, .ref q2, .ref q3, .int (1), .int (1), .ref q4, .ref q5, .ref q6, .int 0, .int (-1), .int 0, .ref q7, .ref q8, .ref q9, .ref q10, .ref q11, .int 0, .ref q12, .ref q13, .int 0, .null, .null, .null, .null, .null])) :: [(q0, .inl (cy 1, 336, .inl (fun _ => 0))), (q1, .inl (cy 0, 336, .inl (fun _ => 0))), (q2, .inl (cy 0, 336, .inl (fun _ => 0))), (q3, .inl (cy 0, 336, .inl (fun _ => 0))), (q4, .inl (cy 0, 12, .inl (fun _ => 0))), (q5, .inl (cy 0, 12, .inl (fun _ => 0))), (q6, .inl (cy 0, 12, .inl (fun _ => 0))), (q7, .inl (cy 0, 24, .inl (fun _ => 0))), (q8, .inl (cy 1, 24, .inl (fun _ => 0))), (q9, .inl (cy 0, 24, .inl (fun _ => 0))), (q10, .inl (cy 0, 24, .inl (fun _ => 0))), (q11, .inl (cy 0, 24, .inl (fun _ => 0))), (q12, .inl (cy 0, 24, .inl (fun _ => 0))), (q13, .inl (cy 0, 24, .inl (fun _ => 0)))]) H17 := hP17
  have hD17 : va_D (ab_A a) (((a, .inr (5, [.int 0, .ref q0, .ref q1, .ref q2, .ref q3, .int (1), .int (1), .ref q4, .ref q5, .ref q6, .int 0, .int (-1), .int 0, .ref q7, .ref q8, .ref q9, .ref q10, .ref q11, .int 0, .ref q12, .ref q13, .int 0, .null, .null, .null, .null, .null])) : Nat × va_E) :: [(q0, .inl (cy 1, 336, .inl (fun _ => 0))), (q1, .inl (cy 0, 336, .inl (fun _ => 0))), (q2, .inl (cy 0, 336, .inl (fun _ => 0))), (q3, .inl (cy 0, 336, .inl (fun _ => 0))), (q4, .inl (cy 0, 12, .inl (fun _ => 0))), (q5, .inl (cy 0, 12, .inl (fun _ => 0))), (q6, .inl (cy 0, 12, .inl (fun _ => 0))), (q7, .inl (cy 0, 24, .inl (fun _ => 0))), (q8, .inl (cy 1, 24, .inl (fun _ => 0))), (q9, .inl (cy 0, 24, .inl (fun _ => 0))), (q10, .inl (cy 0, 24, .inl (fun _ => 0))), (q11, .inl (cy 0, 24, .inl (fun _ => 0))), (q12, .inl (cy 0, 24, .inl (fun _ => 0))), (q13, .inl (cy 0, 24, .inl (fun _ => 0)))]) := hD17
  clear hP16 hD16 hS16
  refine lv_aload_n hx hb dX6_init_135 rfl (lv_at hl 0 rfl) ?_
  refine lv_bipush hx hb dX6_init_136 (v := 24) (by decide) ?_
  refine cn_arr hx hb hown hts hK hbs hin0 hP17 hD17 hS17 hc hin tyX6 tyX6_ok nmX6 (aty := .int) 0 rfl rfl (by decide +kernel) rfl (N' := 24) (by decide) (by decide) (by decide) (Nat.le_of_ble_eq_true rfl) (Nat.le_of_ble_eq_true rfl) dX6_init_138 22 (by decide) (Nat.le_of_ble_eq_true rfl) (by decide +kernel) (by decide) (fun q => ⟨rfl, rfl⟩) dX6_init_140 (fun q14 H18 locs18 hq14 hP18 hD18 hS18 => ?_)
  have hP18 : va_P D vwCl ((a, .inr (5, [.int 0, .ref q0, .ref q1, .ref q2, .ref q3, .int (1), .int (1), .ref q4, .ref q5, .ref q6, .int 0, .int (-1), .int 0, .ref q7, .ref q8, .ref q9, .ref q10, .ref q11, .int 0, .ref q12, .ref q13, .int 0, .ref q14, .null, .null, .null, .null])) :: [(q0, .inl (cy 1, 336, .inl (fun _ => 0))), (q1, .inl (cy 0, 336, .inl (fun _ => 0))), (q2, .inl (cy 0, 336, .inl (fun _ => 0))), (q3, .inl (cy 0, 336, .inl (fun _ => 0))), (q4, .inl (cy 0, 12, .inl (fun _ => 0))), (q5, .inl (cy 0, 12, .inl (fun _ => 0))), (q6, .inl (cy 0, 12, .inl (fun _ => 0))), (q7, .inl (cy 0, 24, .inl (fun _ => 0))), (q8, .inl (cy 1, 24, .inl (fun _ => 0))), (q9, .inl (cy 0, 24, .inl (fun _ => 0))), (q10, .inl (cy 0, 24, .inl (fun _ => 0))), (q11, .inl (cy 0, 24, .inl (fun _ => 0))), (q12, .inl (cy 0, 24, .inl (fun _ => 0))), (q13, .inl (cy 0, 24, .inl (fun _ => 0))), (q14, .inl (cy 0, 24, .inl (fun _ => 0)))]) H18 := hP18
  have hD18 : va_D (ab_A a) (((a, .inr (5, [.int 0, .ref q0, .ref q1, .ref q2, .ref q3, .int (1), .int (1), .ref q4, .ref q5, .ref q6, .int 0, .int (-1), .int 0, .ref q7, .ref q8, .ref q9, .ref q10, .ref q11, .int 0, .ref q12, .ref q13, .int 0, .ref q14, .null, .null, .null, .null])) : Nat × va_E) :: [(q0, .inl (cy 1, 336, .inl (fun _ => 0))), (q1, .inl (cy 0, 336, .inl (fun _ => 0))), (q2, .inl (cy 0, 336, .inl (fun _ => 0))), (q3, .inl (cy 0, 336, .inl (fun _ => 0))), (q4, .inl (cy 0, 12, .inl (fun _ => 0))), (q5, .inl (cy 0, 12, .inl (fun _ => 0))), (q6, .inl (cy 0, 12, .inl (fun _ => 0))), (q7, .inl (cy 0, 24, .inl (fun _ => 0))), (q8, .inl (cy 1, 24, .inl (fun _ => 0))), (q9, .inl (cy 0, 24, .inl (fun _ => 0))), (q10, .inl (cy 0, 24, .inl (fun _ => 0))), (q11, .inl (cy 0, 24, .inl (fun _ => 0))), (q12, .inl (cy 0, 24, .inl (fun _ => 0))), (q13, .inl (cy 0, 24, .inl (fun _ => 0))), (q14, .inl (cy 0, 24, .inl (fun _ => 0)))]) := hD18
  clear hP17 hD17 hS17
  refine lv_aload_n hx hb dX6_init_143 rfl (lv_at hl 0 rfl) ?_
  refine lv_bipush hx hb dX6_init_144 (v := 48) (by decide) ?_
  refine cn_arr hx hb hown hts hK hbs hin0 hP18 hD18 hS18 hc hin tyX6 tyX6_ok nmX6 (aty := .int) 0 rfl rfl (by decide +kernel) rfl (N' := 48) (by decide) (by decide) (by decide) (Nat.le_of_ble_eq_true rfl) (Nat.le_of_ble_eq_true rfl) dX6_init_146 23 (by decide) (Nat.le_of_ble_eq_true rfl) (by decide +kernel) (by decide) (fun q => ⟨rfl, rfl⟩) dX6_init_148 (fun q15 H19 locs19 hq15 hP19 hD19 hS19 => ?_)
  have hP19 : va_P D vwCl ((a, .inr (5, [.int 0, .ref q0, .ref q1, .ref q2, .ref q3, .int (1), .int (1), .ref q4, .ref q5, .ref q6, .int 0, .int (-1), .int 0, .ref q7, .ref q8, .ref q9, .ref q10, .ref q11, .int 0, .ref q12, .ref q13, .int 0, .ref q14, .ref q15, .null, .null, .null])) :: [(q0, .inl (cy 1, 336, .inl (fun _ => 0))), (q1, .inl (cy 0, 336, .inl (fun _ => 0))), (q2, .inl (cy 0, 336, .inl (fun _ => 0))), (q3, .inl (cy 0, 336, .inl (fun _ => 0))), (q4, .inl (cy 0, 12, .inl (fun _ => 0))), (q5, .inl (cy 0, 12, .inl (fun _ => 0))), (q6, .inl (cy 0, 12, .inl (fun _ => 0))), (q7, .inl (cy 0, 24, .inl (fun _ => 0))), (q8, .inl (cy 1, 24, .inl (fun _ => 0))), (q9, .inl (cy 0, 24, .inl (fun _ => 0))), (q10, .inl (cy 0, 24, .inl (fun _ => 0))), (q11, .inl (cy 0, 24, .inl (fun _ => 0))), (q12, .inl (cy 0, 24, .inl (fun _ => 0))), (q13, .inl (cy 0, 24, .inl (fun _ => 0))), (q14, .inl (cy 0, 24, .inl (fun _ => 0))), (q15, .inl (cy 0, 48, .inl (fun _ => 0)))]) H19 := hP19
  have hD19 : va_D (ab_A a) (((a, .inr (5, [.int 0, .ref q0, .ref q1, .ref q2, .ref q3, .int (1), .int (1), .ref q4, .ref q5, .ref q6, .int 0, .int (-1), .int 0, .ref q7, .ref q8, .ref q9, .ref q10, .ref q11, .int 0, .ref q12, .ref q13, .int 0, .ref q14, .ref q15, .null, .null, .null])) : Nat × va_E) :: [(q0, .inl (cy 1, 336, .inl (fun _ => 0))), (q1, .inl (cy 0, 336, .inl (fun _ => 0))), (q2, .inl (cy 0, 336, .inl (fun _ => 0))), (q3, .inl (cy 0, 336, .inl (fun _ => 0))), (q4, .inl (cy 0, 12, .inl (fun _ => 0))), (q5, .inl (cy 0, 12, .inl (fun _ => 0))), (q6, .inl (cy 0, 12, .inl (fun _ => 0))), (q7, .inl (cy 0, 24, .inl (fun _ => 0))), (q8, .inl (cy 1, 24, .inl (fun _ => 0))), (q9, .inl (cy 0, 24, .inl (fun _ => 0))), (q10, .inl (cy 0, 24, .inl (fun _ => 0))), (q11, .inl (cy 0, 24, .inl (fun _ => 0))), (q12, .inl (cy 0, 24, .inl (fun _ => 0))), (q13, .inl (cy 0, 24, .inl (fun _ => 0))), (q14, .inl (cy 0, 24, .inl (fun _ => 0))), (q15, .inl (cy 0, 48, .inl (fun _ => 0)))]) := hD19
  clear hP18 hD18 hS18
  refine lv_aload_n hx hb dX6_init_151 rfl (lv_at hl 0 rfl) ?_
  refine lv_bipush hx hb dX6_init_152 (v := 48) (by decide) ?_
  refine cn_arr hx hb hown hts hK hbs hin0 hP19 hD19 hS19 hc hin tyX6 tyX6_ok nmX6 (aty := .int) 0 rfl rfl (by decide +kernel) rfl (N' := 48) (by decide) (by decide) (by decide) (Nat.le_of_ble_eq_true rfl) (Nat.le_of_ble_eq_true rfl) dX6_init_154 24 (by decide) (Nat.le_of_ble_eq_true rfl) (by decide +kernel) (by decide) (fun q => ⟨rfl, rfl⟩) dX6_init_156 (fun q16 H20 locs20 hq16 hP20 hD20 hS20 => ?_)
  have hP20 : va_P D vwCl ((a, .inr (5, [.int 0, .ref q0, .ref q1, .ref q2, .ref q3, .int (1), .int (1), .ref q4, .ref q5, .ref q6, .int 0, .int (-1), .int 0, .ref q7, .ref q8, .ref q9, .ref q10, .ref q11, .int 0, .ref q12, .ref q13, .int 0, .ref q14, .ref q15, .ref q16, .null, .null])) :: [(q0, .inl (cy 1, 336, .inl (fun _ => 0))), (q1, .inl (cy 0, 336, .inl (fun _ => 0))), (q2, .inl (cy 0, 336, .inl (fun _ => 0))), (q3, .inl (cy 0, 336, .inl (fun _ => 0))), (q4, .inl (cy 0, 12, .inl (fun _ => 0))), (q5, .inl (cy 0, 12, .inl (fun _ => 0))), (q6, .inl (cy 0, 12, .inl (fun _ => 0))), (q7, .inl (cy 0, 24, .inl (fun _ => 0))), (q8, .inl (cy 1, 24, .inl (fun _ => 0))), (q9, .inl (cy 0, 24, .inl (fun _ => 0))), (q10, .inl (cy 0, 24, .inl (fun _ => 0))), (q11, .inl (cy 0, 24, .inl (fun _ => 0))), (q12, .inl (cy 0, 24, .inl (fun _ => 0))), (q13, .inl (cy 0, 24, .inl (fun _ => 0))), (q14, .inl (cy 0, 24, .inl (fun _ => 0))), (q15, .inl (cy 0, 48, .inl (fun _ => 0))), (q16, .inl (cy 0, 48, .inl (fun _ => 0)))]) H20 := hP20
  have hD20 : va_D (ab_A a) (((a, .inr (5, [.int 0, .ref q0, .ref q1, .ref q2, .ref q3, .int (1), .int (1), .ref q4, .ref q5, .ref q6, .int 0, .int (-1), .int 0, .ref q7, .ref q8, .ref q9, .ref q10, .ref q11, .int 0, .ref q12, .ref q13, .int 0, .ref q14, .ref q15, .ref q16, .null, .null])) : Nat × va_E) :: [(q0, .inl (cy 1, 336, .inl (fun _ => 0))), (q1, .inl (cy 0, 336, .inl (fun _ => 0))), (q2, .inl (cy 0, 336, .inl (fun _ => 0))), (q3, .inl (cy 0, 336, .inl (fun _ => 0))), (q4, .inl (cy 0, 12, .inl (fun _ => 0))), (q5, .inl (cy 0, 12, .inl (fun _ => 0))), (q6, .inl (cy 0, 12, .inl (fun _ => 0))), (q7, .inl (cy 0, 24, .inl (fun _ => 0))), (q8, .inl (cy 1, 24, .inl (fun _ => 0))), (q9, .inl (cy 0, 24, .inl (fun _ => 0))), (q10, .inl (cy 0, 24, .inl (fun _ => 0))), (q11, .inl (cy 0, 24, .inl (fun _ => 0))), (q12, .inl (cy 0, 24, .inl (fun _ => 0))), (q13, .inl (cy 0, 24, .inl (fun _ => 0))), (q14, .inl (cy 0, 24, .inl (fun _ => 0))), (q15, .inl (cy 0, 48, .inl (fun _ => 0))), (q16, .inl (cy 0, 48, .inl (fun _ => 0)))]) := hD20
  clear hP19 hD19 hS19
  refine lv_aload_n hx hb dX6_init_159 rfl (lv_at hl 0 rfl) ?_
  refine lv_sipush hx hb dX6_init_160 (v := 576) (by decide) ?_
  refine cn_arr hx hb hown hts hK hbs hin0 hP20 hD20 hS20 hc hin tyX6 tyX6_ok nmX6 (aty := .int) 0 rfl rfl (by decide +kernel) rfl (N' := 576) (by decide) (by decide) (by decide) (Nat.le_of_ble_eq_true rfl) (Nat.le_of_ble_eq_true rfl) dX6_init_163 25 (by decide) (Nat.le_of_ble_eq_true rfl) (by decide +kernel) (by decide) (fun q => ⟨rfl, rfl⟩) dX6_init_165 (fun q17 H21 locs21 hq17 hP21 hD21 hS21 => ?_)
  have hP21 : va_P D vwCl ((a, .inr (5, [.int 0, .ref q0, .ref q1, .ref q2, .ref q3, .int (1), .int (1), .ref q4, .ref q5, .ref q6, .int 0, .int (-1), .int 0, .ref q7, .ref q8, .ref q9, .ref q10, .ref q11, .int 0, .ref q12, .ref q13, .int 0, .ref q14, .ref q15, .ref q16, .ref q17, .null])) :: [(q0, .inl (cy 1, 336, .inl (fun _ => 0))), (q1, .inl (cy 0, 336, .inl (fun _ => 0))), (q2, .inl (cy 0, 336, .inl (fun _ => 0))), (q3, .inl (cy 0, 336, .inl (fun _ => 0))), (q4, .inl (cy 0, 12, .inl (fun _ => 0))), (q5, .inl (cy 0, 12, .inl (fun _ => 0))), (q6, .inl (cy 0, 12, .inl (fun _ => 0))), (q7, .inl (cy 0, 24, .inl (fun _ => 0))), (q8, .inl (cy 1, 24, .inl (fun _ => 0))), (q9, .inl (cy 0, 24, .inl (fun _ => 0))), (q10, .inl (cy 0, 24, .inl (fun _ => 0))), (q11, .inl (cy 0, 24, .inl (fun _ => 0))), (q12, .inl (cy 0, 24, .inl (fun _ => 0))), (q13, .inl (cy 0, 24, .inl (fun _ => 0))), (q14, .inl (cy 0, 24, .inl (fun _ => 0))), (q15, .inl (cy 0, 48, .inl (fun _ => 0))), (q16, .inl (cy 0, 48, .inl (fun _ => 0))), (q17, .inl (cy 0, 576, .inl (fun _ => 0)))]) H21 := hP21
  have hD21 : va_D (ab_A a) (((a, .inr (5, [.int 0, .ref q0, .ref q1, .ref q2, .ref q3, .int (1), .int (1), .ref q4, .ref q5, .ref q6, .int 0, .int (-1), .int 0, .ref q7, .ref q8, .ref q9, .ref q10, .ref q11, .int 0, .ref q12, .ref q13, .int 0, .ref q14, .ref q15, .ref q16, .ref q17, .null])) : Nat × va_E) :: [(q0, .inl (cy 1, 336, .inl (fun _ => 0))), (q1, .inl (cy 0, 336, .inl (fun _ => 0))), (q2, .inl (cy 0, 336, .inl (fun _ => 0))), (q3, .inl (cy 0, 336, .inl (fun _ => 0))), (q4, .inl (cy 0, 12, .inl (fun _ => 0))), (q5, .inl (cy 0, 12, .inl (fun _ => 0))), (q6, .inl (cy 0, 12, .inl (fun _ => 0))), (q7, .inl (cy 0, 24, .inl (fun _ => 0))), (q8, .inl (cy 1, 24, .inl (fun _ => 0))), (q9, .inl (cy 0, 24, .inl (fun _ => 0))), (q10, .inl (cy 0, 24, .inl (fun _ => 0))), (q11, .inl (cy 0, 24, .inl (fun _ => 0))), (q12, .inl (cy 0, 24, .inl (fun _ => 0))), (q13, .inl (cy 0, 24, .inl (fun _ => 0))), (q14, .inl (cy 0, 24, .inl (fun _ => 0))), (q15, .inl (cy 0, 48, .inl (fun _ => 0))), (q16, .inl (cy 0, 48, .inl (fun _ => 0))), (q17, .inl (cy 0, 576, .inl (fun _ => 0)))]) := hD21
  clear hP20 hD20 hS20
  refine lv_aload_n hx hb dX6_init_168 rfl (lv_at hl 0 rfl) ?_
  refine lv_sipush hx hb dX6_init_169 (v := 625) (by decide) ?_
  refine cn_arr hx hb hown hts hK hbs hin0 hP21 hD21 hS21 hc hin tyX6 tyX6_ok nmX6 (aty := .int) 0 rfl rfl (by decide +kernel) rfl (N' := 625) (by decide) (by decide) (by decide) (Nat.le_of_ble_eq_true rfl) (Nat.le_of_ble_eq_true rfl) dX6_init_172 26 (by decide) (Nat.le_of_ble_eq_true rfl) (by decide +kernel) (by decide) (fun q => ⟨rfl, rfl⟩) dX6_init_174 (fun q18 H22 locs22 hq18 hP22 hD22 hS22 => ?_)
  have hP22 : va_P D vwCl ((a, .inr (5, [.int 0, .ref q0, .ref q1, .ref q2, .ref q3, .int (1), .int (1), .ref q4, .ref q5, .ref q6, .int 0, .int (-1), .int 0, .ref q7, .ref q8, .ref q9, .ref q10, .ref q11, .int 0, .ref q12, .ref q13, .int 0, .ref q14, .ref q15, .ref q16, .ref q17, .ref q18])) :: [(q0, .inl (cy 1, 336, .inl (fun _ => 0))), (q1, .inl (cy 0, 336, .inl (fun _ => 0))), (q2, .inl (cy 0, 336, .inl (fun _ => 0))), (q3, .inl (cy 0, 336, .inl (fun _ => 0))), (q4, .inl (cy 0, 12, .inl (fun _ => 0))), (q5, .inl (cy 0, 12, .inl (fun _ => 0))), (q6, .inl (cy 0, 12, .inl (fun _ => 0))), (q7, .inl (cy 0, 24, .inl (fun _ => 0))), (q8, .inl (cy 1, 24, .inl (fun _ => 0))), (q9, .inl (cy 0, 24, .inl (fun _ => 0))), (q10, .inl (cy 0, 24, .inl (fun _ => 0))), (q11, .inl (cy 0, 24, .inl (fun _ => 0))), (q12, .inl (cy 0, 24, .inl (fun _ => 0))), (q13, .inl (cy 0, 24, .inl (fun _ => 0))), (q14, .inl (cy 0, 24, .inl (fun _ => 0))), (q15, .inl (cy 0, 48, .inl (fun _ => 0))), (q16, .inl (cy 0, 48, .inl (fun _ => 0))), (q17, .inl (cy 0, 576, .inl (fun _ => 0))), (q18, .inl (cy 0, 625, .inl (fun _ => 0)))]) H22 := hP22
  have hD22 : va_D (ab_A a) (((a, .inr (5, [.int 0, .ref q0, .ref q1, .ref q2, .ref q3, .int (1), .int (1), .ref q4, .ref q5, .ref q6, .int 0, .int (-1), .int 0, .ref q7, .ref q8, .ref q9, .ref q10, .ref q11, .int 0, .ref q12, .ref q13, .int 0, .ref q14, .ref q15, .ref q16, .ref q17, .ref q18])) : Nat × va_E) :: [(q0, .inl (cy 1, 336, .inl (fun _ => 0))), (q1, .inl (cy 0, 336, .inl (fun _ => 0))), (q2, .inl (cy 0, 336, .inl (fun _ => 0))), (q3, .inl (cy 0, 336, .inl (fun _ => 0))), (q4, .inl (cy 0, 12, .inl (fun _ => 0))), (q5, .inl (cy 0, 12, .inl (fun _ => 0))), (q6, .inl (cy 0, 12, .inl (fun _ => 0))), (q7, .inl (cy 0, 24, .inl (fun _ => 0))), (q8, .inl (cy 1, 24, .inl (fun _ => 0))), (q9, .inl (cy 0, 24, .inl (fun _ => 0))), (q10, .inl (cy 0, 24, .inl (fun _ => 0))), (q11, .inl (cy 0, 24, .inl (fun _ => 0))), (q12, .inl (cy 0, 24, .inl (fun _ => 0))), (q13, .inl (cy 0, 24, .inl (fun _ => 0))), (q14, .inl (cy 0, 24, .inl (fun _ => 0))), (q15, .inl (cy 0, 48, .inl (fun _ => 0))), (q16, .inl (cy 0, 48, .inl (fun _ => 0))), (q17, .inl (cy 0, 576, .inl (fun _ => 0))), (q18, .inl (cy 0, 625, .inl (fun _ => 0)))]) := hD22
  clear hP21 hD21 hS21
  generalize hL : ([((21, 0), a), ((22, 0), q0), ((23, 0), q1), ((24, 0), q2), ((25, 0), q3), ((26, 0), q4), ((27, 0), q5), ((28, 0), q6), ((29, 0), q7), ((30, 0), q8), ((31, 0), q9), ((32, 0), q10), ((33, 0), q11), ((34, 0), q12), ((35, 0), q13), ((36, 0), q14), ((37, 0), q15), ((38, 0), q16), ((39, 0), q17), ((40, 0), q18)] : List (ab_Ob × Nat)) = L
  have hL2 : ∀ p, p ∈ L → p.2 ≠ 0 := by
    intro p hp
    rw [← hL] at hp
    simp only [List.mem_cons, List.not_mem_nil, or_false] at hp
    rcases hp with rfl | rfl | rfl | rfl | rfl | rfl | rfl | rfl | rfl | rfl | rfl | rfl | rfl | rfl | rfl | rfl | rfl | rfl | rfl | rfl <;> simp only <;> omega
  have hpr : cn_pr (cn_ad L (fun _ => 0)) prMo := (cn_pr.none.ext hL2).to (fun o ho => by rw [← hL]; exact prMo_e o ho)
  have hcd0 : ab_cld (fun _ => 0) := fun _ _ _ h => absurd rfl h
  have hnil : ab_wl (fun _ => 0) cy cn_SM = [] := cn_nil (D := D)
  have r21 : cn_ad L (fun _ => 0) (21, 0) = a := by rw [← hL]; rfl
  have r22 : cn_ad L (fun _ => 0) (22, 0) = q0 := by rw [← hL]; rfl
  have r23 : cn_ad L (fun _ => 0) (23, 0) = q1 := by rw [← hL]; rfl
  have r24 : cn_ad L (fun _ => 0) (24, 0) = q2 := by rw [← hL]; rfl
  have r25 : cn_ad L (fun _ => 0) (25, 0) = q3 := by rw [← hL]; rfl
  have r26 : cn_ad L (fun _ => 0) (26, 0) = q4 := by rw [← hL]; rfl
  have r27 : cn_ad L (fun _ => 0) (27, 0) = q5 := by rw [← hL]; rfl
  have r28 : cn_ad L (fun _ => 0) (28, 0) = q6 := by rw [← hL]; rfl
  have r29 : cn_ad L (fun _ => 0) (29, 0) = q7 := by rw [← hL]; rfl
  have r30 : cn_ad L (fun _ => 0) (30, 0) = q8 := by rw [← hL]; rfl
  have r31 : cn_ad L (fun _ => 0) (31, 0) = q9 := by rw [← hL]; rfl
  have r32 : cn_ad L (fun _ => 0) (32, 0) = q10 := by rw [← hL]; rfl
  have r33 : cn_ad L (fun _ => 0) (33, 0) = q11 := by rw [← hL]; rfl
  have r34 : cn_ad L (fun _ => 0) (34, 0) = q12 := by rw [← hL]; rfl
  have r35 : cn_ad L (fun _ => 0) (35, 0) = q13 := by rw [← hL]; rfl
  have r36 : cn_ad L (fun _ => 0) (36, 0) = q14 := by rw [← hL]; rfl
  have r37 : cn_ad L (fun _ => 0) (37, 0) = q15 := by rw [← hL]; rfl
  have r38 : cn_ad L (fun _ => 0) (38, 0) = q16 := by rw [← hL]; rfl
  have r39 : cn_ad L (fun _ => 0) (39, 0) = q17 := by rw [← hL]; rfl
  have r40 : cn_ad L (fun _ => 0) (40, 0) = q18 := by rw [← hL]; rfl
  have hPm := cn_Piff.mp hP22
  have hat2 : ∀ p, p ∈ L → va_at D vwCl (p.2, ab_enc (cn_ad L (fun _ => 0)) cy cn_SM p.1) H22 := by
    intro p hp
    rw [← hL] at hp
    simp only [List.mem_cons, List.not_mem_nil, or_false] at hp
    rcases hp with rfl | rfl | rfl | rfl | rfl | rfl | rfl | rfl | rfl | rfl | rfl | rfl | rfl | rfl | rfl | rfl | rfl | rfl | rfl | rfl
    · have he : ab_enc (cn_ad L (fun _ => 0)) cy cn_SM (21, 0) = .inr (5, [.int 0, .ref q0, .ref q1, .ref q2, .ref q3, .int (1), .int (1), .ref q4, .ref q5, .ref q6, .int 0, .int (-1), .int 0, .ref q7, .ref q8, .ref q9, .ref q10, .ref q11, .int 0, .ref q12, .ref q13, .int 0, .ref q14, .ref q15, .ref q16, .ref q17, .ref q18]) := by
        rw [ab_enc_obj rfl, ← r22, ← r23, ← r24, ← r25, ← r26, ← r27, ← r28, ← r29, ← r30, ← r31, ← r32, ← r33, ← r34, ← r35, ← r36, ← r37, ← r38, ← r39, ← r40]; rfl
      show va_at D vwCl (a, ab_enc (cn_ad L (fun _ => 0)) cy cn_SM (21, 0)) H22
      rw [he]
      exact hPm _ List.mem_cons_self
    · exact hPm _ (List.mem_of_getElem? (i := 1) rfl)
    · exact hPm _ (List.mem_of_getElem? (i := 2) rfl)
    · exact hPm _ (List.mem_of_getElem? (i := 3) rfl)
    · exact hPm _ (List.mem_of_getElem? (i := 4) rfl)
    · exact hPm _ (List.mem_of_getElem? (i := 5) rfl)
    · exact hPm _ (List.mem_of_getElem? (i := 6) rfl)
    · exact hPm _ (List.mem_of_getElem? (i := 7) rfl)
    · exact hPm _ (List.mem_of_getElem? (i := 8) rfl)
    · exact hPm _ (List.mem_of_getElem? (i := 9) rfl)
    · exact hPm _ (List.mem_of_getElem? (i := 10) rfl)
    · exact hPm _ (List.mem_of_getElem? (i := 11) rfl)
    · exact hPm _ (List.mem_of_getElem? (i := 12) rfl)
    · exact hPm _ (List.mem_of_getElem? (i := 13) rfl)
    · exact hPm _ (List.mem_of_getElem? (i := 14) rfl)
    · exact hPm _ (List.mem_of_getElem? (i := 15) rfl)
    · exact hPm _ (List.mem_of_getElem? (i := 16) rfl)
    · exact hPm _ (List.mem_of_getElem? (i := 17) rfl)
    · exact hPm _ (List.mem_of_getElem? (i := 18) rfl)
    · exact hPm _ (List.mem_of_getElem? (i := 19) rfl)
  obtain ⟨hP6, hD6⟩ := cn_ext (L := L) (ad1 := fun _ => 0) (S1 := cn_SM) (S := cn_SM) (ws := (a, .inr (5, [.int 0, .ref q0, .ref q1, .ref q2, .ref q3, .int (1), .int (1), .ref q4, .ref q5, .ref q6, .int 0, .int (-1), .int 0, .ref q7, .ref q8, .ref q9, .ref q10, .ref q11, .int 0, .ref q12, .ref q13, .int 0, .ref q14, .ref q15, .ref q16, .ref q17, .ref q18])) :: [(q0, .inl (cy 1, 336, .inl (fun _ => 0))), (q1, .inl (cy 0, 336, .inl (fun _ => 0))), (q2, .inl (cy 0, 336, .inl (fun _ => 0))), (q3, .inl (cy 0, 336, .inl (fun _ => 0))), (q4, .inl (cy 0, 12, .inl (fun _ => 0))), (q5, .inl (cy 0, 12, .inl (fun _ => 0))), (q6, .inl (cy 0, 12, .inl (fun _ => 0))), (q7, .inl (cy 0, 24, .inl (fun _ => 0))), (q8, .inl (cy 1, 24, .inl (fun _ => 0))), (q9, .inl (cy 0, 24, .inl (fun _ => 0))), (q10, .inl (cy 0, 24, .inl (fun _ => 0))), (q11, .inl (cy 0, 24, .inl (fun _ => 0))), (q12, .inl (cy 0, 24, .inl (fun _ => 0))), (q13, .inl (cy 0, 24, .inl (fun _ => 0))), (q14, .inl (cy 0, 24, .inl (fun _ => 0))), (q15, .inl (cy 0, 48, .inl (fun _ => 0))), (q16, .inl (cy 0, 48, .inl (fun _ => 0))), (q17, .inl (cy 0, 576, .inl (fun _ => 0))), (q18, .inl (cy 0, 625, .inl (fun _ => 0)))]) hcd0 (fun _ _ => rfl) (fun _ _ _ _ _ => rfl) (by rw [← hL]; rfl) hat2 (by rw [hnil, List.append_nil]; exact hP22) (by rw [hnil, List.append_nil]; exact hD22)
  exact cn_tail (M := M_X6_init) (Qt := fun o S' => o = .inl none ∧ JM S' g0) (ok_X6_init l) hx hb hml hr rfl hown hts hK hbs hout hlocks r21 ha0 (cn_ids.mpr (by decide)) hpr prMo_cl hP6 hD6 hS22 hl (fun E S' h => by cases h.1) (fun S' h => ⟨S', h.2, fun _ _ _ _ _ => rfl⟩) (by decide) (by decide) (fun G hG => G_X6_init hG)
