/-! contracts over the universal words kT; calls in one row; tables of cells -/
section CORE1
variable {s : State} {args : Array Value}
def kN (U : State) : Prop := ∀ w ∈ kNest, va_Nw w U
theorem kNest_on {w : Cond} (h : w ∈ kNest) : w.onTables = true := by
  have h2 := (List.mem_filter.mp h).2
  cases w <;> first | rfl | (simp [kIsNest] at h2)
theorem kN.warm {U : State} (hW : s.WarmedH U.vm) (h : kN s) : kN U := by
  intro w hw
  have h1 := h w hw
  have h2 := (List.mem_filter.mp hw).2
  cases w <;> first | exact va_Nw.warmF hW h1 | exact va_Nw.warmM hW h1 | (simp [kIsNest] at h2)
theorem kN.same {u U : State} (h : u.vm = U.vm) (hN : kN u) : kN U := fun w hw => va_Nw.same (kNest_on hw) h (hN w hw)
theorem kN.use (h : kN s) {w : Cond} (hw : w ∈ kNest) : w.before args s = true := va_Nw.use (kNest_on hw) (h w hw)
/-- what holds of the state at a call: the cells, the classes, the nest mates' links -/
def kB (D : va_G) (tys : List (ClassId × FieldType)) (ws : va_W) (U : State) : Prop := va_P D vwCl ws U.heap ∧ va_K D vwCl tys U ∧ kN U
theorem kB.blind {D : va_G} {tys : List (ClassId × FieldType)} {ws : va_W} {av : List Value} : FrameBlind (va_Pc av (kB D tys ws)) := fun a U g mk q => ⟨q.1, q.2.1, va_K.moved (u := U) (U := U.calling g mk a) (Vm.Alike.refl U.vm) q.2.2.1, kN.same (u := U) (U := U.calling g mk a) rfl q.2.2.2⟩
theorem kB.of {D : va_G} {tys : List (ClassId × FieldType)} {ws : va_W} {H : Heap} (hP : va_P D vwCl ws H) (hK : va_K D vwCl tys s) (hN : kN s) {U : State} (hU : U.heap = H) (hW : s.WarmedH U.vm) : kB D tys ws U := ⟨by rw [hU]; exact hP, va_K.moved hW.alike hK, hN.warm hW⟩
/-- an answer, and nothing written -/
def kR (r : Option Value) : Array Value → State → Outcome → State → Prop := fun _ st oc t => oc = .returned r ∧ t.heap = st.heap
/-- an answer, and a world behind it -/
def kQ (r : Option Value) (B : State → Prop) (A : Nat → Prop) : Array Value → State → Outcome → State → Prop := fun _ st oc t => oc = .returned r ∧ B t ∧ va_F A st t
theorem kR.eq {r r' : Option Value} {a : Array Value} {st t : State} {H : Heap} (h : r = r') (ht : t.heap = st.heap) : kR r' a st (.returned r) t := ⟨by rw [h], ht⟩
end CORE1
section CORE2
variable {p : Program} {l : Launch} {e : Env} {R : Room} {s : State} {m : MethodId} {args : Array Value} {below : List Frame} {meth : Method} {c : Code} {H : Heap} {locs : List Loc} {cells slots : Nat} {Q : State → Prop}
variable {pc : Nat} {ls : Array Slot} {rest st0 : List Value} {cc bytes : ByteArray} {nL maxL index n mc ms : Nat} {own : String} {y : MethodName} {ret : Option FieldType} {rm : Room} {Pc : Array Value → State → Prop} {Qc : Array Value → State → Outcome → State → Prop} {free : Addr → Prop} {b : Addr} {As : List Value} {D : va_G} {tys : List (ClassId × FieldType)} {ws ws' : va_W} {A : Nat → Prop} {H0 : Heap}
theorem kMet {av : List Value} {B : State → Prop} (hy : plainName y.cls = true)
    (body : ∀ p e s m args below meth c ls, p.tables.exec = Jvm.exec → c.code = cc → meth.sig.returnType = ret → c.maxLocals = maxL → (∀ w ∈ kT, w.before args s = true) → s.vm.findClass y.cls = some m.cls → meth.locks = false → meth.name = y.name → args = av.toArray → B s → lv_has ls maxL (lv_args 0 av) →
      W p l e rm s m args below meth c s.heap [] 0 0 (MQ below Qc args s mc ms free) (F0 m 0 ls [])) (hn : (lg_sl av).length ≤ maxL) : Met l y (.code y cc maxL ret :: kT) rm (va_Pc av B) Qc mc ms free := by
  refine Met.ofW (cc := cc) (maxL := maxL) (ret := ret) hy rfl ?_
  intro p e s m args below meth c s₁ Bd hml hv
  obtain ⟨rfl, hB⟩ := hv
  have hts := atoms_spec (ws := .code y cc maxL ret :: kT) Bd.pre
  have hl := lv_entry av (n := maxL) hn
  rw [lg_entry_eq]
  generalize (lg_sl av ++ List.replicate (maxL - (lg_sl av).length) Slot.unset).toArray = ls at hl ⊢
  exact body p e s m _ below meth c ls Bd.exec Bd.bytes Bd.returns hml (fun w h => hts w (List.mem_cons_of_mem _ h)) (findClass_of_methodNamed Bd.named) Bd.notSynchronized (name_of_methodNamed Bd.named Bd.method).1 rfl hB hl
theorem kGood (hcode : Cond.code y bytes maxL ret ∈ kT) : GoodIn kT (.code y bytes maxL ret :: kT) := fun w h => by
  rcases List.mem_cons.mp h with rfl | h
  · exact ⟨hcode, good_of_word (kT_good _ hcode)⟩
  · exact ⟨h, good_of_word (kT_good _ h)⟩
theorem kcwV (hts : ∀ w ∈ kT, w.before args s = true) (h : kEV own index y bytes maxL ret n) (hR : rm.frames + 1 ≤ R.frames ∧ 8 + (maxL + 11) + rm.locals ≤ R.locals) : CallW R s args own y.cls index y bytes maxL ret (.code y bytes maxL ret :: kT) rm rm.cells rm.slots n := by
  obtain ⟨⟨h1, h2, h3⟩, h4, h5, h6⟩ := h
  exact ⟨callB_of n hts (kGood h5) rfl rfl rfl (hts _ h4) (hts _ h1) h6 hR, hts _ h2, hts _ h3⟩
theorem kcwS (hts : ∀ w ∈ kT, w.before args s = true) (h : kES own index y bytes maxL ret n) (hR : rm.frames + 1 ≤ R.frames ∧ 8 + (maxL + 11) + rm.locals ≤ R.locals) : CallB R s args own index y bytes maxL ret (.code y bytes maxL ret :: kT) rm rm.cells rm.slots n ∧ (Cond.static y).before args s = true := by
  obtain ⟨⟨h1, h2⟩, h4, h5, h6⟩ := h
  exact ⟨callB_of n hts (kGood h5) rfl rfl rfl (hts _ h4) (hts _ h1) h6 hR, hts _ h2⟩
theorem kcwI (hts : ∀ w ∈ kT, w.before args s = true) (h : kEI own index y bytes maxL none n) (hR : rm.frames + 1 ≤ R.frames ∧ 8 + (maxL + 11) + rm.locals ≤ R.locals) : CallB R s args own index y bytes maxL none (.code y bytes maxL none :: kT) rm rm.cells rm.slots n ∧ y.name = "<init>" ∧ (Cond.instanceMethod y).before args s = true := by
  obtain ⟨⟨h1, h2, h3⟩, h4, h5, h6⟩ := h
  exact ⟨callB_of n hts (kGood h5) rfl rfl rfl (hts _ h4) (hts _ h1) h6 hR, h3, hts _ h2⟩
/-- a call that reads alone, of a method of an object -/
theorem k_rV {v : Value} {ci q0 : Nat} {qc : vw_C} {fs : List Value} (hx : p.tables.exec = Jvm.exec) (hb : c.code = cc) (hml : c.maxLocals = nL) (hown : s.vm.findClass own = some m.cls) (hts : ∀ w ∈ kT, w.before args s = true) (hsz : ls.size = nL)
    (hP : va_P D vwCl ws H) (hK : va_K D vwCl tys s) (hN : kN s)
    (hM : Met l y (.code y bytes maxL ret :: kT) rm (va_Pc (.ref b :: As) (kB D tys ws)) (kR (some v)) 0 0 (fun _ => False)) (he : kEV own index y bytes maxL ret n)
    (hci : vwCl[ci]? = some qc) (hcn : qc.1 = y.cls) (hq0 : ws[q0]? = some (b, .inr (ci, fs)))
    (hn : As.length = n) (hstack : st0 = As.reverse ++ .ref b :: rest) (hW : (rest.map fun v => v.category).sum ≤ 8) (hR : rm.frames + 1 ≤ R.frames ∧ 8 + (maxL + 11) + rm.locals ≤ R.locals) (hrm : rm.cells = 0 ∧ rm.slots = 0) (hf : cells + 0 ≤ R.cells ∧ slots + 0 ≤ R.slots)
    (hdg : decode cc pc = .ok (.invokevirtual index, 3)) (k : W p l e R s m args below meth c H locs cells slots Q (F0 m (pc + 3) ls (v :: rest))) : W p l e R s m args below meth c H locs cells slots Q (F0 m pc ls st0) := by
  have cw := kcwV (R := R) (rm := rm) hts he hR
  rw [hrm.1, hrm.2] at cw
  have hrecv := va_recv hK hP hci hq0
  rw [hcn] at hrecv
  have hr := W.runV (g := F0 m pc ls st0) (rest := rest) (p := p) (l := l) (e := e) (below := below) (meth := meth) (locs := locs) (cells := cells) (slots := slots) ⟨hx, hb, hml, hown, hts⟩ hM cw ⟨kB.blind, hrecv, fun U hU hW => ⟨rfl, kB.of hP hK hN hU hW⟩⟩ rfl hn hsz hstack (lv_room hW) hdg hf
  intro T hT X
  obtain ⟨v', st₀, t, T', L, h0, X', hL, e1, ⟨hv, hh⟩, st⟩ := hr T hT X
  cases hv
  obtain ⟨t2, a1, b1⟩ := k T' (by rw [e1, hh, h0]) (Stand.forget X' (fun q h => (hL q h).elim))
  exact ⟨t2, st t2 a1, b1⟩
/-- a call of a class's own that reads alone -/
theorem k_rS {v : Value} {B : State → Prop} (hx : p.tables.exec = Jvm.exec) (hb : c.code = cc) (hml : c.maxLocals = nL) (hown : s.vm.findClass own = some m.cls) (hts : ∀ w ∈ kT, w.before args s = true) (hsz : ls.size = nL)
    (hbl : FrameBlind (va_Pc As B)) (hB : ∀ U : State, U.heap = H → s.WarmedH U.vm → B U)
    (hM : Met l y (.code y bytes maxL ret :: kT) rm (va_Pc As B) (kR (some v)) 0 0 (fun _ => False)) (he : kES own index y bytes maxL ret n)
    (hn : As.length = n) (hstack : st0 = As.reverse ++ rest) (hW : (rest.map fun v => v.category).sum ≤ 8) (hR : rm.frames + 1 ≤ R.frames ∧ 8 + (maxL + 11) + rm.locals ≤ R.locals) (hrm : rm.cells = 0 ∧ rm.slots = 0) (hf : cells + 0 ≤ R.cells ∧ slots + 0 ≤ R.slots)
    (hdg : decode cc pc = .ok (.invokestatic index, 3)) (k : W p l e R s m args below meth c H locs cells slots Q (F0 m (pc + 3) ls (v :: rest))) : W p l e R s m args below meth c H locs cells slots Q (F0 m pc ls st0) := by
  have cw := kcwS (R := R) (rm := rm) hts he hR
  rw [hrm.1, hrm.2] at cw
  have hr := W.runS (g := F0 m pc ls st0) (rest := rest) (p := p) (l := l) (e := e) (below := below) (meth := meth) (locs := locs) (cells := cells) (slots := slots) (H := H) ⟨hx, hb, hml, hown, hts⟩ hM cw ⟨hbl, fun U hU hW => ⟨rfl, hB U hU hW⟩⟩ rfl hn hsz hstack (lv_room hW) hdg hf
  intro T hT X
  obtain ⟨v', st₀, t, T', L, h0, X', hL, e1, ⟨hv, hh⟩, st⟩ := hr T hT X
  cases hv
  obtain ⟨t2, a1, b1⟩ := k T' (by rw [e1, hh, h0]) (Stand.forget X' (fun q h => (hL q h).elim))
  exact ⟨t2, st t2 a1, b1⟩
/-- a call that writes, of a method of an object -/
theorem k_wV {r : Option Value} {ci q0 : Nat} {qc : vw_C} {fs : List Value} (hx : p.tables.exec = Jvm.exec) (hb : c.code = cc) (hml : c.maxLocals = nL) (hown : s.vm.findClass own = some m.cls) (hts : ∀ w ∈ kT, w.before args s = true) (hsz : ls.size = nL)
    (hP : va_P D vwCl ws H) (hK : va_K D vwCl tys s) (hN : kN s) (hS : va_S A H0 H locs)
    (hM : Met l y (.code y bytes maxL ret :: kT) rm (va_Pc (.ref b :: As) (kB D tys ws)) (kQ r (kB D tys ws') A) 0 0 A) (he : kEV own index y bytes maxL ret n)
    (hci : vwCl[ci]? = some qc) (hcn : qc.1 = y.cls) (hq0 : ws[q0]? = some (b, .inr (ci, fs)))
    (hn : As.length = n) (hstack : st0 = As.reverse ++ .ref b :: rest) (hW : (rest.map fun v => v.category).sum ≤ 8) (hR : rm.frames + 1 ≤ R.frames ∧ 8 + (maxL + 11) + rm.locals ≤ R.locals) (hrm : rm.cells = 0 ∧ rm.slots = 0) (hf : cells + 0 ≤ R.cells ∧ slots + 0 ≤ R.slots)
    (hdg : decode cc pc = .ok (.invokevirtual index, 3)) (k : ∀ (H1 : Heap) (locs1 : List Loc), va_P D vwCl ws' H1 → va_S A H0 H1 locs1 → W p l e R s m args below meth c H1 locs1 cells slots Q (F0 m (pc + 3) ls (r.toList ++ rest))) : W p l e R s m args below meth c H locs cells slots Q (F0 m pc ls st0) := by
  have cw := kcwV (R := R) (rm := rm) hts he hR
  rw [hrm.1, hrm.2] at cw
  have hrecv := va_recv hK hP hci hq0
  rw [hcn] at hrecv
  have hr := W.runV (g := F0 m pc ls st0) (rest := rest) (p := p) (l := l) (e := e) (below := below) (meth := meth) (locs := locs) (cells := cells) (slots := slots) ⟨hx, hb, hml, hown, hts⟩ hM cw ⟨kB.blind, hrecv, fun U hU hW => ⟨rfl, kB.of hP hK hN hU hW⟩⟩ rfl hn hsz hstack (lv_room hW) hdg hf
  intro T hT X
  obtain ⟨v', st₀, t, T', L, h0, X', hL, e1, ⟨hv, hB', hz, hk⟩, st⟩ := hr T hT X
  cases hv
  rw [h0] at hz hk
  obtain ⟨t2, a1, b1⟩ := k T'.heap (locs ++ L) (by rw [e1]; exact hB'.1) ⟨Nat.le_trans hS.1 (by rw [e1]; exact hz), fun q h1 h2 => by rw [e1, hk q (Nat.lt_of_lt_of_le h1 hS.1) h2]; exact hS.2.1 q h1 h2, fun q hq => by
      rcases List.mem_append.mp hq with h | h
      · exact hS.2.2 q h
      · exact hL q h⟩ T' rfl X'
  exact ⟨t2, st t2 a1, b1⟩
theorem k_wS {r : Option Value} (hx : p.tables.exec = Jvm.exec) (hb : c.code = cc) (hml : c.maxLocals = nL) (hown : s.vm.findClass own = some m.cls) (hts : ∀ w ∈ kT, w.before args s = true) (hsz : ls.size = nL)
    (hP : va_P D vwCl ws H) (hK : va_K D vwCl tys s) (hN : kN s) (hS : va_S A H0 H locs)
    (hM : Met l y (.code y bytes maxL ret :: kT) rm (va_Pc As (kB D tys ws)) (kQ r (kB D tys ws') A) 0 0 A) (he : kES own index y bytes maxL ret n)
    (hn : As.length = n) (hstack : st0 = As.reverse ++ rest) (hW : (rest.map fun v => v.category).sum ≤ 8) (hR : rm.frames + 1 ≤ R.frames ∧ 8 + (maxL + 11) + rm.locals ≤ R.locals) (hrm : rm.cells = 0 ∧ rm.slots = 0) (hf : cells + 0 ≤ R.cells ∧ slots + 0 ≤ R.slots)
    (hdg : decode cc pc = .ok (.invokestatic index, 3)) (k : ∀ (H1 : Heap) (locs1 : List Loc), va_P D vwCl ws' H1 → va_S A H0 H1 locs1 → W p l e R s m args below meth c H1 locs1 cells slots Q (F0 m (pc + 3) ls (r.toList ++ rest))) : W p l e R s m args below meth c H locs cells slots Q (F0 m pc ls st0) := by
  have cw := kcwS (R := R) (rm := rm) hts he hR
  rw [hrm.1, hrm.2] at cw
  have hr := W.runS (g := F0 m pc ls st0) (rest := rest) (p := p) (l := l) (e := e) (below := below) (meth := meth) (locs := locs) (cells := cells) (slots := slots) (H := H) ⟨hx, hb, hml, hown, hts⟩ hM cw ⟨kB.blind, fun U hU hW => ⟨rfl, kB.of hP hK hN hU hW⟩⟩ rfl hn hsz hstack (lv_room hW) hdg hf
  intro T hT X
  obtain ⟨v', st₀, t, T', L, h0, X', hL, e1, ⟨hv, hB', hz, hk⟩, st⟩ := hr T hT X
  cases hv
  rw [h0] at hz hk
  obtain ⟨t2, a1, b1⟩ := k T'.heap (locs ++ L) (by rw [e1]; exact hB'.1) ⟨Nat.le_trans hS.1 (by rw [e1]; exact hz), fun q h1 h2 => by rw [e1, hk q (Nat.lt_of_lt_of_le h1 hS.1) h2]; exact hS.2.1 q h1 h2, fun q hq => by
      rcases List.mem_append.mp hq with h | h
      · exact hS.2.2 q h
      · exact hL q h⟩ T' rfl X'
  exact ⟨t2, st t2 a1, b1⟩
end CORE2
/-! tables of cells: the k-th cell lies at ad k -/
def kAA (ad : Nat → Nat) (N : Nat) : Nat → Prop := fun q => ∃ k, k < N ∧ q = ad k
def kInj (ad : Nat → Nat) (N : Nat) : Prop := ∀ i j : Nat, i < N → j < N → ad i = ad j → i = j
def kTab (ad : Nat → Nat) (N : Nat) (E : Nat → va_E) : va_W := (List.range N).map (fun k => (ad k, E k))
theorem kTab_get {ad : Nat → Nat} {N : Nat} {E : Nat → va_E} {k : Nat} (h : k < N) : (kTab ad N E)[k]? = some (ad k, E k) := by simp [kTab, h]
theorem kTab_at {ad : Nat → Nat} {N : Nat} {E : Nat → va_E} {k : Nat} {x : va_E} (h : k < N) (hx : E k = x) : (kTab ad N E)[k]? = some (ad k, x) := by rw [← hx]; exact kTab_get h
theorem kTab_set {ad : Nat → Nat} {N : Nat} {E : Nat → va_E} {k : Nat} {x : va_E} (h : k < N) : (kTab ad N E).set k (ad k, x) = kTab ad N (va_up E k x) := by
  apply List.ext_getElem?
  intro j
  by_cases hj : j = k
  · subst hj
    rw [List.getElem?_set_self (by simp [kTab]; exact h), kTab_get h, va_up_self]
  · rw [List.getElem?_set_ne (Ne.symm hj)]
    by_cases hN : j < N
    · rw [kTab_get hN, kTab_get hN, va_up_ne _ _ hj]
    · rw [List.getElem?_eq_none (by simp [kTab]; omega), List.getElem?_eq_none (by simp [kTab]; omega)]
theorem kTab_ext {ad : Nat → Nat} {N : Nat} {E E' : Nat → va_E} (h : ∀ k, k < N → E k = E' k) : kTab ad N E = kTab ad N E' := by
  unfold kTab
  apply List.map_congr_left
  intro k hk
  rw [h k (List.mem_range.mp hk)]
theorem kTab_lt {ad : Nat → Nat} {N : Nat} {E : Nat → va_E} {k : Nat} {q : Nat × va_E} (h : (kTab ad N E)[k]? = some q) : k < N ∧ q = (ad k, E k) := by
  by_cases hN : k < N
  · rw [kTab_get hN] at h
    exact ⟨hN, (Option.some.inj h).symm⟩
  · rw [List.getElem?_eq_none (by simp [kTab]; omega)] at h
    cases h
theorem kTab_D {ad : Nat → Nat} {N : Nat} {E : Nat → va_E} (hI : kInj ad N) : va_D (kAA ad N) (kTab ad N E) := by
  refine ⟨fun i j x y hx hy hxy => ?_, fun k q hk => ?_⟩
  · obtain ⟨h1, rfl⟩ := kTab_lt hx
    obtain ⟨h2, rfl⟩ := kTab_lt hy
    exact hI i j h1 h2 hxy
  · obtain ⟨h1, rfl⟩ := kTab_lt hk
    exact ⟨k, h1, rfl⟩
theorem va_eta {α : Type} (f : Nat → α) (k : Nat) : va_up f k (f k) = f := by
  funext j
  unfold va_up
  split
  · next h => rw [h]
  · rfl
/-- a row of numbers, whose every place is looked at before it is used: read, and written -/
def rg (n : Nat) (f : Nat → Int32) (i : Int32) : Int32 := if i < 0 then 0 else if nI n ≤ i then 0 else f i.toNatClampNeg
def rs (n : Nat) (f : Nat → Int32) (i x : Int32) : Nat → Int32 := if i < 0 then f else if nI n ≤ i then f else upd f i.toNatClampNeg x
