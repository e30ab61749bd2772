/-! the class's constructors: what is made stands at the world's end -/
section CNEW
variable {p : Program} {l : Launch} {e : Env} {R : Room} {s : State} {m : MethodId} {args : Array Value} {below : List Frame} {meth : Method} {c : Code} {H : Heap} {locs : List Loc} {cells slots : Nat} {Q : State → Prop}
variable {pc : Nat} {ls : Array Slot} {rest st0 : List Value} {cc bytes : ByteArray} {nL maxL index n mc ms : Nat} {own host : String} {y : MethodName} {ret : Option FieldType} {rm : Room} {b : Addr} {As : List Value} {D : va_G} {tys : List (ClassId × FieldType)} {ws w0 L M : va_W} {A : Nat → Prop} {H0 : Heap} {cI : ClassId} {a : Addr} {P : va_W → Prop} {Pv : Value → va_W → Prop}
def kBz (sz : Nat) (D : va_G) (tys : List (ClassId × FieldType)) (ws : va_W) (U : State) : Prop := U.heap.size = sz ∧ kB D tys ws U
theorem kBz.blind {sz : Nat} {av : List Value} : FrameBlind (va_Pc av (kBz sz D tys ws)) := fun a U g mk q => ⟨q.1, q.2.1, (kB.blind (av := av) a U g mk ⟨q.1, q.2.2⟩).2⟩
/-- made: nothing comes back, the world is one of P's -/
def kM (P : va_W → Prop) (A : Nat → Prop) (D : va_G) (tys : List (ClassId × FieldType)) : Array Value → State → Outcome → State → Prop := fun _ st oc t => oc = .returned none ∧ (∃ ws', P ws' ∧ va_D A ws' ∧ kB D tys ws' t) ∧ va_F A st t
def kMv (Pv : Value → va_W → Prop) (A : Nat → Prop) (D : va_G) (tys : List (ClassId × FieldType)) : Array Value → State → Outcome → State → Prop := fun _ st oc t => (∃ v ws', oc = .returned (some v) ∧ Pv v ws' ∧ va_D A ws' ∧ kB D tys ws' t) ∧ va_F A st t
theorem app_P {H : Heap} {cl : List vw_C} (h : va_P D cl ((w0 ++ L) ++ M) H) : va_P D cl (w0 ++ (L ++ M)) H := by rw [← List.append_assoc]; exact h
theorem app_D (h : va_D A ((w0 ++ L) ++ M)) : va_D A (w0 ++ (L ++ M)) := by rw [← List.append_assoc]; exact h
theorem getAt {x : Nat × va_E} : (w0 ++ x :: L)[w0.length]? = some x := by simp
theorem setAt {x z : Nat × va_E} : (w0 ++ x :: L).set w0.length z = w0 ++ z :: L := by simp
theorem k_new {C : String} {T : u_T} {N ci : Nat} (hx : p.tables.exec = Jvm.exec) (hb : c.code = cc) (hts : ∀ w ∈ kT, w.before args s = true) (hin : ∀ w ∈ u_ws C T N, w ∈ kT) (ty : Nat → FieldType) (hty : ∀ k, k < N → parseFieldDescriptor (T k).2.2.1 = some (ty k)) (hown : s.vm.findClass own = some m.cls) (hcl : Cond.classLink own index C ∈ kT) (hinst : Cond.instantiable C N ∈ kT) (hini : Cond.initialized C ∈ kT)
    (hK : va_K D vwCl tys s) (hP : va_P D vwCl ws H) (hD : va_D A ws) (hS : va_S A H0 H locs) (hA : ∀ q, H0.size ≤ q → A q) (hc : vwCl[ci]? = some (C, T, N)) {fs : List Value} (hfs : ∀ j, j < N → defaultValue (ty j) = vp_V fs j) (hcells : cells + 1 ≤ R.cells) (hslots : slots + N ≤ R.slots) (hdg : decode cc pc = .ok (.new index, 3))
    (kk : ∀ (q : Nat) (H1 : Heap), va_P D vwCl (ws ++ [(q, .inr (ci, fs))]) H1 → va_D A (ws ++ [(q, .inr (ci, fs))]) → va_S A H0 H1 locs → W p l e R s m args below meth c H1 locs (cells + 1) (slots + N) Q (F0 m (pc + 3) ls (.ref q :: rest))) : W p l e R s m args below meth c H locs cells slots Q (F0 m pc ls rest) :=
  va_new hx hb hts hin ty hty hown (hts _ hcl) (hts _ hinst) (hts _ hini) hK hP hD hS hA hc hfs hcells hslots hdg kk
theorem k_ini (hx : p.tables.exec = Jvm.exec) (hb : c.code = cc) (hml : c.maxLocals = nL) (hown : s.vm.findClass own = some m.cls) (hts : ∀ w ∈ kT, w.before args s = true) (hsz : ls.size = nL)
    (hP : va_P D vwCl ws H) (hK : va_K D vwCl tys s) (hN : kN s) (hS : va_S A H0 H locs)
    (hM : Met l y (.code y bytes maxL none :: kT) rm (va_Pc (.ref b :: As) (kBz H.size D tys ws)) (kM P A D tys) mc ms A) (he : kEI own index y bytes maxL none n)
    (hn : As.length = n) (hstack : st0 = As.reverse ++ .ref b :: rest) (hW : (rest.map fun v => v.category).sum ≤ 8) (hR : rm.frames + 1 ≤ R.frames ∧ 8 + (maxL + 11) + rm.locals ≤ R.locals) (hrm : rm.cells = mc ∧ rm.slots = ms) (hf : cells + mc ≤ R.cells ∧ slots + ms ≤ R.slots)
    (hdg : decode cc pc = .ok (.invokespecial index, 3)) (k : ∀ (ws' : va_W) (H1 : Heap) (locs1 : List Loc), P ws' → va_D A ws' → va_P D vwCl ws' H1 → va_S A H0 H1 locs1 → W p l e R s m args below meth c H1 locs1 (cells + mc) (slots + ms) Q (F0 m (pc + 3) ls rest)) : W p l e R s m args below meth c H locs cells slots Q (F0 m pc ls st0) := by
  have cw := kcwI (R := R) (rm := rm) hts he hR
  rw [hrm.1, hrm.2] at cw
  have hr := W.runI (g := F0 m pc ls st0) (rest := rest) (p := p) (l := l) (e := e) (below := below) (meth := meth) (locs := locs) (cells := cells) (slots := slots) (H := H) ⟨hx, hb, hml, hown, hts⟩ hM cw ⟨kBz.blind, fun U hU hW => ⟨rfl, by rw [hU], kB.of hP hK hN hU hW⟩⟩ rfl hn hsz hstack (lv_room hW) hdg hf
  intro T hT X
  obtain ⟨v', st₀, t, T', LL, h0, X', hL, e1, ⟨hv, ⟨ws', hp, hd, hB'⟩, hz, hk⟩, st⟩ := hr T hT X
  cases hv
  rw [h0] at hz hk
  obtain ⟨t2, a1, b1⟩ := k ws' T'.heap (locs ++ LL) hp hd (by rw [e1]; exact hB'.1) ⟨Nat.le_trans hS.1 (by rw [e1]; exact hz), fun q h1 h2 => by rw [e1, hk q (Nat.lt_of_lt_of_le h1 hS.1) h2]; exact hS.2.1 q h1 h2, fun q hq => by
      rcases List.mem_append.mp hq with h | h
      · exact hS.2.2 q h
      · exact hL q h⟩ T' rfl X'
  exact ⟨t2, st t2 a1, b1⟩
theorem k_iniN (hx : p.tables.exec = Jvm.exec) (hb : c.code = cc) (hml : c.maxLocals = nL) (hown : s.vm.findClass own = some m.cls) (hts : ∀ w ∈ kT, w.before args s = true) (hsz : ls.size = nL)
    (hP : va_P D vwCl ws H) (hK : va_K D vwCl tys s) (hN : kN s) (hS : va_S A H0 H locs)
    (hM : Met l y (.code y bytes maxL none :: kT) rm (va_Pc (.ref b :: As) (kBz H.size D tys ws)) (kM P A D tys) mc ms A) (he : kEN own index y host bytes maxL none n)
    (hn : As.length = n) (hstack : st0 = As.reverse ++ .ref b :: rest) (hW : (rest.map fun v => v.category).sum ≤ 8) (hR : rm.frames + 1 ≤ R.frames ∧ 8 + (maxL + 11) + rm.locals ≤ R.locals) (hrm : rm.cells = mc ∧ rm.slots = ms) (hf : cells + mc ≤ R.cells ∧ slots + ms ≤ R.slots)
    (hdg : decode cc pc = .ok (.invokespecial index, 3)) (k : ∀ (ws' : va_W) (H1 : Heap) (locs1 : List Loc), P ws' → va_D A ws' → va_P D vwCl ws' H1 → va_S A H0 H1 locs1 → W p l e R s m args below meth c H1 locs1 (cells + mc) (slots + ms) Q (F0 m (pc + 3) ls rest)) : W p l e R s m args below meth c H locs cells slots Q (F0 m pc ls st0) := by
  obtain ⟨⟨q1, q2, q3⟩, q4, q5, q6⟩ := he
  have cw := va_cnB (R := R) (rm := rm) (ws' := kT) (mc := mc) (ms := ms) n hts (kGood q5) rfl hrm.1 hrm.2 (hN _ q1) (hts _ q4) q6 hR
  have hr := va_runIN (g := F0 m pc ls st0) (rest := rest) (p := p) (l := l) (e := e) (below := below) (meth := meth) (locs := locs) (cells := cells) (slots := slots) (H := H) ⟨hx, hb, hml, hown, hts⟩ hM ⟨cw, q3, hts _ q2⟩ ⟨kBz.blind, fun U hU hW => ⟨rfl, by rw [hU], kB.of hP hK hN hU hW⟩⟩ rfl hn hsz hstack (lv_room hW) hdg hf
  intro T hT X
  obtain ⟨v', st₀, t, T', LL, h0, X', hL, e1, e2, ⟨hv, ⟨ws', hp, hd, hB'⟩, hz, hk⟩, st⟩ := hr T hT X
  cases hv
  rw [h0] at hz hk
  obtain ⟨t2, a1, b1⟩ := k ws' T'.heap (locs ++ LL) hp hd (by rw [e1]; exact hB'.1) ⟨Nat.le_trans hS.1 (by rw [e1]; exact hz), fun q h1 h2 => by rw [e1, hk q (Nat.lt_of_lt_of_le h1 hS.1) h2]; exact hS.2.1 q h1 h2, fun q hq => by
      rcases List.mem_append.mp hq with h | h
      · exact hS.2.2 q h
      · exact hL q h⟩ T' rfl X'
  exact ⟨t2, st t2 a1, b1⟩
theorem k_mkS (hx : p.tables.exec = Jvm.exec) (hb : c.code = cc) (hml : c.maxLocals = nL) (hown : s.vm.findClass own = some m.cls) (hts : ∀ w ∈ kT, w.before args s = true) (hsz : ls.size = nL)
    (hP : va_P D vwCl ws H) (hK : va_K D vwCl tys s) (hN : kN s) (hS : va_S A H0 H locs)
    (hM : Met l y (.code y bytes maxL ret :: kT) rm (va_Pc As (kBz H.size D tys ws)) (kMv Pv A D tys) mc ms A) (he : kES own index y bytes maxL ret n)
    (hn : As.length = n) (hstack : st0 = As.reverse ++ rest) (hW : (rest.map fun v => v.category).sum ≤ 8) (hR : rm.frames + 1 ≤ R.frames ∧ 8 + (maxL + 11) + rm.locals ≤ R.locals) (hrm : rm.cells = mc ∧ rm.slots = ms) (hf : cells + mc ≤ R.cells ∧ slots + ms ≤ R.slots)
    (hdg : decode cc pc = .ok (.invokestatic index, 3)) (k : ∀ (v : Value) (ws' : va_W) (H1 : Heap) (locs1 : List Loc), Pv v ws' → va_D A ws' → va_P D vwCl ws' H1 → va_S A H0 H1 locs1 → W p l e R s m args below meth c H1 locs1 (cells + mc) (slots + ms) Q (F0 m (pc + 3) ls (v :: rest))) : W p l e R s m args below meth c H locs cells slots Q (F0 m pc ls st0) := by
  have cw := kcwS (R := R) (rm := rm) hts he hR
  rw [hrm.1, hrm.2] at cw
  have hr := W.runS (g := F0 m pc ls st0) (rest := rest) (p := p) (l := l) (e := e) (below := below) (meth := meth) (locs := locs) (cells := cells) (slots := slots) (H := H) ⟨hx, hb, hml, hown, hts⟩ hM cw ⟨kBz.blind, fun U hU hW => ⟨rfl, by rw [hU], kB.of hP hK hN hU hW⟩⟩ rfl hn hsz hstack (lv_room hW) hdg hf
  intro T hT X
  obtain ⟨v', st₀, t, T', LL, h0, X', hL, e1, ⟨⟨v, ws', hv, hp, hd, hB'⟩, hz, hk⟩, st⟩ := hr T hT X
  cases hv
  rw [h0] at hz hk
  obtain ⟨t2, a1, b1⟩ := k v ws' T'.heap (locs ++ LL) hp hd (by rw [e1]; exact hB'.1) ⟨Nat.le_trans hS.1 (by rw [e1]; exact hz), fun q h1 h2 => by rw [e1, hk q (Nat.lt_of_lt_of_le h1 hS.1) h2]; exact hS.2.1 q h1 h2, fun q hq => by
      rcases List.mem_append.mp hq with h | h
      · exact hS.2.2 q h
      · exact hL q h⟩ T' rfl X'
  exact ⟨t2, st t2 a1, b1⟩
end CNEW
theorem jmax_n {n : Nat} (h : n < 2 ^ 31) : jmax (nI n) 0 = nI n := by
  unfold jmax
  rw [if_neg (nI_pos h)]
/-- a Row of n zeros, made at the world's end -/
def pRow (cI : ClassId) (w0 : va_W) (o n : Nat) : va_W → Prop := fun ws' => ∃ a, ws' = w0 ++ [(o, .inr (2, [.ref a])), (a, .inl (cI, n, .inl (fun _ => 0)))]
section ROWINI
variable {l : Launch} {dC : Nat → ClassId} {dI : Nat → Nat → Nat} {cI : ClassId} {w0 : va_W} {A : Nat → Prop} {o : Nat}
set_option maxHeartbeats 1000000 in
theorem c_row_init (sz n : Nat) (hn : n ≤ 1000) (hA : ∀ q, sz ≤ q → A q) (hD : va_D A (w0 ++ [(o, .inr (2, [.null]))])) : Met l yX2_init (.code yX2_init cX2_init 2 none :: kT) ({ frames := 1, cells := 1, slots := n, locals := 22 } : Room) (va_Pc [.ref o, .int (nI n)] (kBz sz (dC, dI) [(cI, .int)] (w0 ++ [(o, .inr (2, [.null]))]))) (kM (pRow cI w0 o n) A (dC, dI) [(cI, .int)]) 1 n A := by
  refine kMet (by decide) (fun p e s m args below meth c ls hx hb hr hml hts hown hlocks hname hargs hB hl => ?_) (Nat.le_of_ble_eq_true rfl)
  obtain ⟨hsz, hP, hK, hN⟩ := hB
  have hA : ∀ q, s.heap.size ≤ q → A q := fun q h => hA q (hsz ▸ h)
  have hl : lv_has ls 2 [(0, .ref o), (1, .int (nI n))] := hl
  have hS : va_S A s.heap s.heap [] := va_S.rf
  have hin : meth.name = "<init>" := hname
  refine lv_aload_n hx hb dX2_init_0 rfl (lv_at hl 0 rfl) ?_
  refine W.objInit hx hb hown (hts _ kobj_X2) (hts _ k_objI) (hts _ k_objC) rfl (by rw [hml]; exact hl.1) rfl dX2_init_1 (Nat.le_of_ble_eq_true rfl) (Nat.le_of_ble_eq_true rfl) ?_
  refine W.eq (g2 := F0 m 4 ls []) rfl ?_
  refine lv_aload_n hx hb dX2_init_4 rfl (lv_at hl 0 rfl) ?_
  refine lv_iload_n hx hb dX2_init_5 rfl (lv_at hl 1 rfl) ?_
  refine lv_iconst (v := 0) hx hb dX2_init_6 (by decide) ?_
  refine k_mmax (rest := [.ref o]) hx hb hml hown hts hl.1 eX2_7 (Nat.le_of_ble_eq_true rfl) (Nat.le_of_ble_eq_true rfl) (Nat.zero_le _) (Nat.zero_le _) dX2_init_7 ?_
  refine kn_top (x' := nI n) (jmax_n (by omega)) ?_
  refine k_newa hx hb hts hK hP hD hS hA n (nI_pos (by omega)) (nI_clamp (by omega)) (by omega) (by show 0 + 1 ≤ 1; omega) (by show 0 + n ≤ n; omega) dX2_init_10 (fun q H hP hD hS => ?_)
  have hP := app_P hP
  have hD := app_D hD
  refine k_putF (q0 := w0.length) (ci := 2) (ty := .array .int) hx hb hts inT_X2 tyX2 tyX2_ok nmX2 hown hin hK hP hD hS getAt rfl 0 (by decide) rfl rfl kX2_13 rfl (by decide +kernel) rfl rfl (Nat.le_of_ble_eq_true rfl) setAt dX2_init_12 (fun H locs hP hD hS => ?_)
  refine W.widen (k := 1) (n := n) (by omega) (by omega) ?_
  exact W.vret hx hb hr (fun t ht hW => ⟨rfl, ⟨_, ⟨q, rfl⟩, hD, kB.of hP hK hN ht hW⟩, hS.F ht⟩) hS.2.2 dX2_init_15 hlocks
end ROWINI
