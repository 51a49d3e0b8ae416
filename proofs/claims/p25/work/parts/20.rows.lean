/-! rows over the whole tables: calls of methods that only read, and of those that write -/
theorem tb_GI {ws : List Cond} (h : ∀ w ∈ ws, w ∈ zt) : GoodIn zt ws := fun w hw => ⟨h w hw, good_of_word (List.mem_filter.mp (h w hw)).2⟩
theorem tb_cons {w : Cond} {ws : List Cond} (h : w ∈ zt) (hs : ∀ v ∈ ws, v ∈ zt) : ∀ v ∈ w :: ws, v ∈ zt := fun v hv => (List.mem_cons.mp hv).elim (fun e => e ▸ h) (hs v)
theorem tb_self : ∀ v ∈ zt, v ∈ zt := fun _ h => h
def zty (cy : Nat → ClassId) : List (ClassId × FieldType) := [(cy 0, .int), (cy 1, .long), (cy 2, .byte), (cy 3, .boolean), (cy 4, .object "ChordHerds$Earnest")]
/-- the classes, the rows' classes, and the links of nest mates -/
def zK (D : va_G) (cy : Nat → ClassId) (U : State) : Prop := va_K D vwCl (zty cy) U ∧ ∀ q ∈ zNl, va_Nw (.methodLinkNest q.1 q.2.1 q.2.2.1 q.2.2.2) U
theorem zK.warm {D : va_G} {cy : Nat → ClassId} {s U : State} (hW : s.WarmedH U.vm) (h : zK D cy s) : zK D cy U := ⟨va_K.moved hW.alike h.1, fun q hq => va_Nw.warmM hW (h.2 q hq)⟩
theorem zK.calling {D : va_G} {cy : Nat → ClassId} {U : State} {g : JFrame} {mk : MethodId} {a : Array Value} (h : zK D cy U) : zK D cy (U.calling g mk a) := ⟨va_K.moved (u := U) (U := U.calling g mk a) (Vm.Alike.refl U.vm) h.1, fun q hq => va_Nw.same rfl (u := U) (U := U.calling g mk a) rfl (h.2 q hq)⟩
def zRd (D : va_G) (cy : Nat → ClassId) (ws : va_W) (U : State) : Prop := va_P D vwCl ws U.heap ∧ zK D cy U
def zPre (D : va_G) (cy : Nat → ClassId) (ws : va_W) (sz : Nat) (U : State) : Prop := U.heap.size = sz ∧ va_P D vwCl ws U.heap ∧ zK D cy U ∧ va_D (fun _ => True) ws
def zPo (D : va_G) (cy : Nat → ClassId) (ws : va_W) (A : Nat → Prop) (t : State) : Prop := va_P D vwCl ws t.heap ∧ va_D A ws
def zQi (r0 : Int32) (D : va_G) (cy : Nat → ClassId) (ws : va_W) (A : Nat → Prop) : Array Value → State → Outcome → State → Prop := va_Qi (fun r (_ : Unit) => r = r0) (fun _ t => zPo D cy ws A t) A
def zQv (D : va_G) (cy : Nat → ClassId) (ws : va_W) (A : Nat → Prop) : Array Value → State → Outcome → State → Prop := va_Qv (fun (_ : Unit) => True) (fun _ t => zPo D cy ws A t) A
def zSi (r0 : Int32) : Array Value → State → Outcome → State → Prop := vp_Si (fun r => r = r0)
/-- what a method's walk stands on -/
def zCx (p : Program) (s : State) (m : MethodId) (args : Array Value) (meth : Method) (c : Code) (cc : ByteArray) (nL : Nat) (ret : Option FieldType) (own : String) (D : va_G) (cy : Nat → ClassId) : Prop :=
  p.tables.exec = Jvm.exec ∧ c.code = cc ∧ meth.sig.returnType = ret ∧ c.maxLocals = nL ∧ s.vm.findClass own = some m.cls ∧ (∀ w ∈ zt, w.before args s = true) ∧ meth.locks = false ∧ zK D cy s
/-- what a call of an instance method needs of the tables -/
def zY (C : String) (y : MethodName) (bytes : ByteArray) (maxL : Nat) (ret : Option FieldType) (n : Nat) : Prop :=
  Cond.instanceMethod y ∈ zt ∧ Cond.selects C y y ∈ zt ∧ Cond.initialized C ∈ zt ∧ Cond.code y bytes maxL ret ∈ zt ∧ (y.cls = C ∧ y.cls ≠ "java/lang/invoke/MethodHandle" ∧ y.cls ≠ "java/lang/invoke/VarHandle" ∧ (parseMethodDescriptor y.desc).map (fun d => d.parameters.length) = some n)
/-- of a static one -/
def zYs (y : MethodName) (bytes : ByteArray) (maxL : Nat) (ret : Option FieldType) (n : Nat) : Prop :=
  Cond.static y ∈ zt ∧ Cond.initialized y.cls ∈ zt ∧ Cond.code y bytes maxL ret ∈ zt ∧ (y.cls ≠ "java/lang/invoke/MethodHandle" ∧ y.cls ≠ "java/lang/invoke/VarHandle" ∧ (parseMethodDescriptor y.desc).map (fun d => d.parameters.length) = some n)
/-- the row of the three boxes -/
def zbx (b : Nat → Nat) : Nat → Option Nat := fun j => if j = 0 then some (b 0) else if j = 1 then some (b 1) else if j = 2 then some (b 2) else none
theorem zbx_eq (q0 q1 q2 : Nat) : va_up (va_up (va_up (fun _ => none) 0 (some q0)) 1 (some q1)) 2 (some q2) = zbx (fun j => if j = 0 then q0 else if j = 1 then q1 else q2) := by
  funext j
  by_cases h0 : j = 0
  · subst h0; rfl
  by_cases h1 : j = 1
  · subst h1; rfl
  by_cases h2 : j = 2
  · subst h2; rfl
  simp [va_up, zbx, h0, h1, h2]
def zPreI (D : va_G) (cy : Nat → ClassId) (ws : va_W) (sz : Nat) (U : State) : Prop := zPre D cy ws sz U ∧ va_AO "ChordHerds$Earnest" U
def zQu (D : va_G) (cy : Nat → ClassId) (w1 : (Nat → Nat → Nat) → va_W) (A : Nat → Prop) : Array Value → State → Outcome → State → Prop := va_Qv (fun (_ : Nat → Nat → Nat) => True) (fun u t => zPo D cy (w1 u) A t) A
section ZR
variable {p : Program} {l : Launch} {e : Env} {R : Room} {s : State} {m : MethodId} {args : Array Value} {below : List Frame} {meth : Method} {c : Code} {H H0 : Heap} {locs : List Loc} {cells slots : Nat} {Q : State → Prop}
variable {pc : Nat} {ls : Array Slot} {rest st0 : List Value} {a : Array Value} {D : va_G} {cy : Nat → ClassId} {ws wc w1 wr ws' : va_W} {A : Nat → Prop}
variable {cc bytes : ByteArray} {nL maxL index n : Nat} {own C : String} {y : MethodName} {ret : Option FieldType} {rm : Room} {Pc : Array Value → State → Prop} {Qc : Array Value → State → Outcome → State → Prop} {free : Addr → Prop} {b : Nat} {As : List Value} {r0 : Int32}
theorem zBl {av : List Value} : FrameBlind (va_Pc av (zRd D cy wc)) := fun a U g mk q => by
  obtain ⟨q0, qP, qK⟩ := q
  exact ⟨q0, qP, qK.calling⟩
theorem zBlw {av : List Value} {sz : Nat} : FrameBlind (va_Pc av (zPre D cy wc sz)) := fun a U g mk q => by
  obtain ⟨q0, q1, qP, qK, qD⟩ := q
  exact ⟨q0, q1, qP, qK.calling, qD⟩
/-- the start of a reading call: instance, static -/
theorem zpR (hK : zK D cy s) (hP : va_P D vwCl ws H) (is : List Nat) (hs : is.filterMap (fun i => ws[i]?) = wc) (q0 ci : Nat) {fs : List Value} {r : vw_C} (hc : vwCl[ci]? = some r) (hr : r.1 = C) (he : wc[q0]? = some (b, .inr (ci, fs))) : PreV s H C b (va_Pc (.ref b :: As) (zRd D cy wc)) As := by
  subst hr
  have hPc := hP.sub is hs
  exact ⟨zBl, va_recv hK.1 hPc hc he, fun U hU hW => ⟨rfl, by rw [hU]; exact hPc, hK.warm hW⟩⟩
theorem zpS (hK : zK D cy s) (hP : va_P D vwCl ws H) (is : List Nat) (hs : is.filterMap (fun i => ws[i]?) = wc) : PreS s H (va_Pc As (zRd D cy wc)) As :=
  ⟨zBl, fun U hU hW => ⟨rfl, by rw [hU]; exact hP.sub is hs, hK.warm hW⟩⟩
/-- the start of a writing call -/
theorem zpRw (hK : zK D cy s) (hP : va_P D vwCl ws H) (hD : va_D A ws) (is : List Nat) (hn : va_nd is = true) (hs : is.map (fun i => ws[i]?) = wc.map some) (q0 ci : Nat) {fs : List Value} {r : vw_C} (hc : vwCl[ci]? = some r) (hr : r.1 = C) (he : wc[q0]? = some (b, .inr (ci, fs))) (hs2 : is.filterMap (fun i => ws[i]?) = wc) : PreV s H C b (va_Pc (.ref b :: As) (zPre D cy wc H.size)) As := by
  subst hr
  have hPc := hP.sub is hs2
  exact ⟨zBlw, va_recv hK.1 hPc hc he, fun U hU hW => ⟨rfl, by rw [hU], by rw [hU]; exact hPc, hK.warm hW, (hD.sub is hn hs).weaken (fun _ _ _ _ => trivial)⟩⟩
theorem zpSw (hK : zK D cy s) (hP : va_P D vwCl ws H) (hD : va_D A ws) (is : List Nat) (hn : va_nd is = true) (hs : is.map (fun i => ws[i]?) = wc.map some) (hs2 : is.filterMap (fun i => ws[i]?) = wc) : PreS s H (va_Pc As (zPre D cy wc H.size)) As :=
  ⟨zBlw, fun U hU hW => ⟨rfl, by rw [hU], by rw [hU]; exact hP.sub is hs2, hK.warm hW, (hD.sub is hn hs).weaken (fun _ _ _ _ => trivial)⟩⟩
/-- the run of a call: instance, static, a nest mate's static -/
theorem zV (hx : p.tables.exec = Jvm.exec) (hb : c.code = cc) (hml : c.maxLocals = nL) (hown : s.vm.findClass own = some m.cls) (hT : ∀ w ∈ zt, w.before args s = true) (hsz : ls.size = nL)
    (hM : Met l y (.code y bytes maxL ret :: zt) rm Pc Qc 0 0 free) (hY : zY C y bytes maxL ret n) (hl : Cond.methodLink own index y ∈ zt) (hp : PreV s H C b Pc As) (hR : rm.cells = 0 ∧ rm.slots = 0 ∧ rm.frames + 1 ≤ R.frames ∧ 8 + (maxL + 11) + rm.locals ≤ R.locals)
    (hn : As.length = n) (hst : st0 = As.reverse ++ .ref b :: rest) (hrest : (rest.map fun v => v.category).sum ≤ 8) (hdg : decode cc pc = .ok (.invokevirtual index, 3)) (hcl : cells ≤ R.cells ∧ slots ≤ R.slots) :
    va_Run p l e R s m args below meth c H locs cells slots 0 0 (F0 m pc ls st0) rest (Qc (Value.ref b :: As).toArray) free := by
  obtain ⟨h2, h3, h4, h5, hd⟩ := hY
  exact va_runV ⟨hx, hb, hml, hown, hT⟩ hM (cwV n hT (tb_GI (fun w hw => by
    rcases List.mem_append.mp (show w ∈ ([.methodLink own index y, .instanceMethod y, .selects C y y, .initialized C] : List Cond) ++ (.code y bytes maxL ret :: zt) from hw) with h | h
    · rcases List.mem_cons.mp h with rfl | h
      · exact hl
      rcases List.mem_cons.mp h with rfl | h
      · exact h2
      rcases List.mem_cons.mp h with rfl | h
      · exact h3
      rcases List.mem_cons.mp h with rfl | h
      · exact h4
      · exact absurd h List.not_mem_nil
    · exact tb_cons h5 tb_self w h)) rfl hR.1 hR.2.1 hd ⟨hR.2.2.1, hR.2.2.2⟩) hp rfl hn hsz hst (lv_room hrest) hdg hcl
theorem zS (hx : p.tables.exec = Jvm.exec) (hb : c.code = cc) (hml : c.maxLocals = nL) (hown : s.vm.findClass own = some m.cls) (hT : ∀ w ∈ zt, w.before args s = true) (hsz : ls.size = nL)
    (hM : Met l y (.code y bytes maxL ret :: zt) rm Pc Qc 0 0 free) (hY : zYs y bytes maxL ret n) (hl : Cond.methodLink own index y ∈ zt) (hp : PreS s H Pc As) (hR : rm.cells = 0 ∧ rm.slots = 0 ∧ rm.frames + 1 ≤ R.frames ∧ 8 + (maxL + 11) + rm.locals ≤ R.locals)
    (hn : As.length = n) (hst : st0 = As.reverse ++ rest) (hrest : (rest.map fun v => v.category).sum ≤ 8) (hdg : decode cc pc = .ok (.invokestatic index, 3)) (hcl : cells ≤ R.cells ∧ slots ≤ R.slots) :
    va_Run p l e R s m args below meth c H locs cells slots 0 0 (F0 m pc ls st0) rest (Qc As.toArray) free := by
  obtain ⟨h2, h4, h5, hd⟩ := hY
  exact va_runS ⟨hx, hb, hml, hown, hT⟩ hM (va_cwS n hT (tb_GI (fun w hw => by
    rcases List.mem_append.mp (show w ∈ ([.methodLink own index y, .static y, .initialized y.cls] : List Cond) ++ (.code y bytes maxL ret :: zt) from hw) with h | h
    · rcases List.mem_cons.mp h with rfl | h
      · exact hl
      rcases List.mem_cons.mp h with rfl | h
      · exact h2
      rcases List.mem_cons.mp h with rfl | h
      · exact h4
      · exact absurd h List.not_mem_nil
    · exact tb_cons h5 tb_self w h)) rfl hR.1 hR.2.1 hd ⟨hR.2.2.1, hR.2.2.2⟩) hp rfl hn hsz hst (lv_room hrest) hdg hcl
theorem zSN {host : String} (hx : p.tables.exec = Jvm.exec) (hb : c.code = cc) (hml : c.maxLocals = nL) (hown : s.vm.findClass own = some m.cls) (hT : ∀ w ∈ zt, w.before args s = true) (hsz : ls.size = nL)
    (hM : Met l y (.code y bytes maxL ret :: zt) rm Pc Qc 0 0 free) (hY : zYs y bytes maxL ret n) (hK : zK D cy s) (hl : (own, index, y, host) ∈ zNl) (hp : PreS s H Pc As) (hR : rm.cells = 0 ∧ rm.slots = 0 ∧ rm.frames + 1 ≤ R.frames ∧ 8 + (maxL + 11) + rm.locals ≤ R.locals)
    (hn : As.length = n) (hst : st0 = As.reverse ++ rest) (hrest : (rest.map fun v => v.category).sum ≤ 8) (hdg : decode cc pc = .ok (.invokestatic index, 3)) (hcl : cells ≤ R.cells ∧ slots ≤ R.slots) :
    va_Run p l e R s m args below meth c H locs cells slots 0 0 (F0 m pc ls st0) rest (Qc As.toArray) free := by
  obtain ⟨h2, h4, h5, hd⟩ := hY
  exact va_runSN ⟨hx, hb, hml, hown, hT⟩ hM ⟨va_cnB n hT (tb_GI (tb_cons h5 tb_self)) rfl hR.1 hR.2.1 (hK.2 _ hl) (hT _ h4) hd ⟨hR.2.2.1, hR.2.2.2⟩, hT _ h2, trivial⟩ hp rfl hn hsz hst (lv_room hrest) hdg hcl
/-- behind a reading call: nothing has changed -/
theorem zri (hr : va_Run p l e R s m args below meth c H locs cells slots 0 0 (F0 m pc ls st0) rest (zSi r0 a) (fun _ => False)) (kk : W p l e R s m args below meth c H locs cells slots Q (F0 m (pc + 3) ls (.int r0 :: rest))) : W p l e R s m args below meth c H locs cells slots Q (F0 m pc ls st0) := by
  intro T hT X
  obtain ⟨v, st₀, t, T', L, h0, X', hL, e1, e2, ⟨r, hv, hp, hh⟩, st⟩ := hr T hT X
  cases hv
  subst hp
  obtain ⟨t2, a1, b1⟩ := kk T' (by rw [e1, hh, h0]) (Stand.forget X' (fun q h => (hL q h).elim))
  exact ⟨t2, st t2 a1, b1⟩
/-- behind a writing call: the callee's cells beside the rest, in the caller's order -/
theorem zwi (hr : va_Run p l e R s m args below meth c H locs cells slots 0 0 (F0 m pc ls st0) rest (zQi r0 D cy w1 (va_A wc H.size) a) (va_A wc H.size)) (hP : va_P D vwCl ws H) (hD : va_D A ws) (hS : va_S A H0 H locs) (hA : ∀ q, H0.size ≤ q → A q)
    (isC isR is : List Nat) (hC : isC.map (fun i => ws[i]?) = wc.map some) (hR : isR.map (fun i => ws[i]?) = wr.map some) (hn : va_nd isR = true) (hdis : ∀ i ∈ isR, i ∉ isC) (h2 : va_nd is = true) (hs : is.map (fun i => (wr ++ w1)[i]?) = ws'.map some) (hs2 : is.filterMap (fun i => (wr ++ w1)[i]?) = ws')
    (kk : ∀ (H1 : Heap) (locs1 : List Loc), va_P D vwCl ws' H1 → va_D A ws' → va_S A H0 H1 locs1 → W p l e R s m args below meth c H1 locs1 cells slots Q (F0 m (pc + 3) ls (.int r0 :: rest))) : W p l e R s m args below meth c H locs cells slots Q (F0 m pc ls st0) := by
  have hF := va_free hD hS hA isC hC
  refine va_calli hr hS (fun q _ h => hF q h) hF (fun r u t H1 locs1 ht hvm hw hB hz1 hk1 hS1 => ?_)
  obtain ⟨hP1, hD1⟩ := hB
  rw [ht] at hP1
  obtain ⟨hP2, hD2⟩ := va_join hP hD isC isR hC hR hn hdis hk1 hF hP1 hD1
  subst hw
  exact kk H1 locs1 (hP2.sub is hs2) (hD2.sub is h2 hs) hS1
theorem zwv (hr : va_Run p l e R s m args below meth c H locs cells slots 0 0 (F0 m pc ls st0) rest (zQv D cy w1 (va_A wc H.size) a) (va_A wc H.size)) (hP : va_P D vwCl ws H) (hD : va_D A ws) (hS : va_S A H0 H locs) (hA : ∀ q, H0.size ≤ q → A q)
    (isC isR is : List Nat) (hC : isC.map (fun i => ws[i]?) = wc.map some) (hR : isR.map (fun i => ws[i]?) = wr.map some) (hn : va_nd isR = true) (hdis : ∀ i ∈ isR, i ∉ isC) (h2 : va_nd is = true) (hs : is.map (fun i => (wr ++ w1)[i]?) = ws'.map some) (hs2 : is.filterMap (fun i => (wr ++ w1)[i]?) = ws')
    (kk : ∀ (H1 : Heap) (locs1 : List Loc), va_P D vwCl ws' H1 → va_D A ws' → va_S A H0 H1 locs1 → W p l e R s m args below meth c H1 locs1 cells slots Q (F0 m (pc + 3) ls rest)) : W p l e R s m args below meth c H locs cells slots Q (F0 m pc ls st0) := by
  have hF := va_free hD hS hA isC hC
  refine va_callv hr hS (fun q _ h => hF q h) hF (fun u t H1 locs1 ht hvm hw hB hz1 hk1 hS1 => ?_)
  obtain ⟨hP1, hD1⟩ := hB
  rw [ht] at hP1
  obtain ⟨hP2, hD2⟩ := va_join hP hD isC isR hC hR hn hdis hk1 hF hP1 hD1
  exact kk H1 locs1 (hP2.sub is hs2) (hD2.sub is h2 hs) hS1
/-- returns: of a reading method, of a writing one -/
theorem zeri (hx : p.tables.exec = Jvm.exec) (hb : c.code = cc) (hr : meth.sig.returnType = some .int) (hk : meth.locks = false) (hdg : decode cc pc = .ok (.ireturn, 1)) : W p l e R s m args below meth c s.heap [] 0 0 (MQ below (zSi r0) args s 0 0 (fun _ => False)) (F0 m pc ls [.int r0]) :=
  W.iret hx hb hr (fun t ht hW => ⟨r0, rfl, rfl, ht⟩) (fun q hq => absurd hq List.not_mem_nil) hdg hk
theorem zerz (hx : p.tables.exec = Jvm.exec) (hb : c.code = cc) (hr : meth.sig.returnType = some .boolean) (hk : meth.locks = false) (h01 : r0 = 0 ∨ r0 = 1) (hdg : decode cc pc = .ok (.ireturn, 1)) : W p l e R s m args below meth c s.heap [] 0 0 (MQ below (zSi r0) args s 0 0 (fun _ => False)) (F0 m pc ls [.int r0]) :=
  W.zret hx hb hr (by rcases h01 with rfl | rfl <;> decide) (fun t ht hW => ⟨r0, rfl, rfl, ht⟩) (fun q hq => absurd hq List.not_mem_nil) hdg hk
theorem zewi (hx : p.tables.exec = Jvm.exec) (hb : c.code = cc) (hr : meth.sig.returnType = some .int) (hk : meth.locks = false) (hK : zK D cy s) (hP : va_P D vwCl ws H) (hD : va_D A ws) (hS : va_S A s.heap H locs) (hdg : decode cc pc = .ok (.ireturn, 1)) : W p l e R s m args below meth c H locs 0 0 (MQ below (zQi r0 D cy ws A) args s 0 0 A) (F0 m pc ls [.int r0]) :=
  W.iret hx hb hr (fun t ht hW => ⟨⟨r0, (), rfl, rfl, by rw [ht]; exact hP, hD⟩, hS.F ht⟩) hS.2.2 hdg hk
theorem zewz (hx : p.tables.exec = Jvm.exec) (hb : c.code = cc) (hr : meth.sig.returnType = some .boolean) (hk : meth.locks = false) (h01 : r0 = 0 ∨ r0 = 1) (hK : zK D cy s) (hP : va_P D vwCl ws H) (hD : va_D A ws) (hS : va_S A s.heap H locs) (hdg : decode cc pc = .ok (.ireturn, 1)) : W p l e R s m args below meth c H locs 0 0 (MQ below (zQi r0 D cy ws A) args s 0 0 A) (F0 m pc ls [.int r0]) :=
  W.zret hx hb hr (by rcases h01 with rfl | rfl <;> decide) (fun t ht hW => ⟨⟨r0, (), rfl, rfl, by rw [ht]; exact hP, hD⟩, hS.F ht⟩) hS.2.2 hdg hk
theorem zewv (hx : p.tables.exec = Jvm.exec) (hb : c.code = cc) (hr : meth.sig.returnType = none) (hk : meth.locks = false) (hK : zK D cy s) (hP : va_P D vwCl ws H) (hD : va_D A ws) (hS : va_S A s.heap H locs) (hdg : decode cc pc = .ok (.return_, 1)) : W p l e R s m args below meth c H locs 0 0 (MQ below (zQv D cy ws A) args s 0 0 A) (F0 m pc ls []) :=
  W.vret hx hb hr (fun t ht hW => ⟨⟨(), rfl, trivial, by rw [ht]; exact hP, hD⟩, hS.F ht⟩) hS.2.2 hdg hk
theorem zBli {av : List Value} {sz : Nat} : FrameBlind (va_Pc av (zPreI D cy wc sz)) := fun a U g mk q => by
  obtain ⟨q0, ⟨q1, qP, qK, qD⟩, qO⟩ := q
  exact ⟨q0, ⟨q1, qP, qK.calling, qD⟩, va_AO.moved (u := U) (U := U.calling g mk a) (Vm.Alike.refl U.vm) qO⟩
theorem zpI_ (hK : zK D cy s) (hO : va_AO "ChordHerds$Earnest" s) (hP : va_P D vwCl ws H) (hD : va_D A ws) (is : List Nat) (hn : va_nd is = true) (hs : is.map (fun i => ws[i]?) = wc.map some) (hs2 : is.filterMap (fun i => ws[i]?) = wc) : PreS s H (va_Pc As (zPreI D cy wc H.size)) As :=
  ⟨zBli, fun U hU hW => ⟨rfl, ⟨by rw [hU], by rw [hU]; exact hP.sub is hs2, hK.warm hW, (hD.sub is hn hs).weaken (fun _ _ _ _ => trivial)⟩, va_AO.moved hW.alike hO⟩⟩
/-- the call of a constructor: of one's own package, of a nest mate -/
theorem zIc {mc ms : Nat} (hx : p.tables.exec = Jvm.exec) (hb : c.code = cc) (hml : c.maxLocals = nL) (hown : s.vm.findClass own = some m.cls) (hT : ∀ w ∈ zt, w.before args s = true) (hsz : ls.size = nL)
    (hM : Met l y (.code y bytes maxL none :: zt) rm Pc Qc mc ms free) (hi : Cond.instanceMethod y ∈ zt) (hini : Cond.initialized y.cls ∈ zt) (hcd : Cond.code y bytes maxL none ∈ zt) (hl : Cond.methodLink own index y ∈ zt) (hd : y.name = "<init>" ∧ y.cls ≠ "java/lang/invoke/MethodHandle" ∧ y.cls ≠ "java/lang/invoke/VarHandle" ∧ (parseMethodDescriptor y.desc).map (fun d => d.parameters.length) = some n) (hp : PreS s H Pc (.ref b :: As)) (hR : rm.cells = mc ∧ rm.slots = ms ∧ rm.frames + 1 ≤ R.frames ∧ 8 + (maxL + 11) + rm.locals ≤ R.locals)
    (hn : As.length = n) (hst : st0 = As.reverse ++ .ref b :: rest) (hrest : (rest.map fun v => v.category).sum ≤ 8) (hdg : decode cc pc = .ok (.invokespecial index, 3)) (hcl : cells + mc ≤ R.cells ∧ slots + ms ≤ R.slots) :
    va_Run p l e R s m args below meth c H locs cells slots mc ms (F0 m pc ls st0) rest (Qc (Value.ref b :: As).toArray) free :=
  va_runI ⟨hx, hb, hml, hown, hT⟩ hM (cwI n hT (tb_GI (tb_cons hcd tb_self)) rfl hR.1 hR.2.1 (hT _ hini) (hT _ hl) (hT _ hi) hd.1 hd.2 ⟨hR.2.2.1, hR.2.2.2⟩) hp rfl hn hsz hst (lv_room hrest) hdg hcl
theorem zIN {mc ms : Nat} {host : String} (hx : p.tables.exec = Jvm.exec) (hb : c.code = cc) (hml : c.maxLocals = nL) (hown : s.vm.findClass own = some m.cls) (hT : ∀ w ∈ zt, w.before args s = true) (hsz : ls.size = nL)
    (hM : Met l y (.code y bytes maxL none :: zt) rm Pc Qc mc ms free) (hi : Cond.instanceMethod y ∈ zt) (hini : Cond.initialized y.cls ∈ zt) (hcd : Cond.code y bytes maxL none ∈ zt) (hK : zK D cy s) (hl : (own, index, y, host) ∈ zNl) (hd : y.name = "<init>" ∧ y.cls ≠ "java/lang/invoke/MethodHandle" ∧ y.cls ≠ "java/lang/invoke/VarHandle" ∧ (parseMethodDescriptor y.desc).map (fun d => d.parameters.length) = some n) (hp : PreS s H Pc (.ref b :: As)) (hR : rm.cells = mc ∧ rm.slots = ms ∧ rm.frames + 1 ≤ R.frames ∧ 8 + (maxL + 11) + rm.locals ≤ R.locals)
    (hn : As.length = n) (hst : st0 = As.reverse ++ .ref b :: rest) (hrest : (rest.map fun v => v.category).sum ≤ 8) (hdg : decode cc pc = .ok (.invokespecial index, 3)) (hcl : cells + mc ≤ R.cells ∧ slots + ms ≤ R.slots) :
    va_Run p l e R s m args below meth c H locs cells slots mc ms (F0 m pc ls st0) rest (Qc (Value.ref b :: As).toArray) free :=
  va_runIN ⟨hx, hb, hml, hown, hT⟩ hM ⟨va_cnB n hT (tb_GI (tb_cons hcd tb_self)) rfl hR.1 hR.2.1 (hK.2 _ hl) (hT _ hini) hd.2 ⟨hR.2.2.1, hR.2.2.2⟩, hd.1, hT _ hi⟩ hp rfl hn hsz hst (lv_room hrest) hdg hcl
theorem zwu {w2 : (Nat → Nat → Nat) → va_W} {mc ms : Nat} (hr : va_Run p l e R s m args below meth c H locs cells slots mc ms (F0 m pc ls st0) rest (zQu D cy w2 (va_A wc H.size) a) (va_A wc H.size)) (hP : va_P D vwCl ws H) (hD : va_D A ws) (hS : va_S A H0 H locs) (hA : ∀ q, H0.size ≤ q → A q)
    (isC isR : List Nat) (hC : isC.map (fun i => ws[i]?) = wc.map some) (hR : isR.map (fun i => ws[i]?) = wr.map some) (hn : va_nd isR = true) (hdis : ∀ i ∈ isR, i ∉ isC)
    (kk : ∀ (u : Nat → Nat → Nat) (H1 : Heap) (locs1 : List Loc), va_P D vwCl (wr ++ w2 u) H1 → va_D A (wr ++ w2 u) → va_S A H0 H1 locs1 → W p l e R s m args below meth c H1 locs1 (cells + mc) (slots + ms) Q (F0 m (pc + 3) ls rest)) : W p l e R s m args below meth c H locs cells slots Q (F0 m pc ls st0) := by
  have hF := va_free hD hS hA isC hC
  refine va_callv hr hS (fun q _ h => hF q h) hF (fun u t H1 locs1 ht hvm hw hB hz1 hk1 hS1 => ?_)
  obtain ⟨hP1, hD1⟩ := hB
  rw [ht] at hP1
  obtain ⟨hP2, hD2⟩ := va_join hP hD isC isR hC hR hn hdis hk1 hF hP1 hD1
  exact kk u H1 locs1 hP2 hD2 hS1
/-- a new row; a final field is set -/
theorem znewa {atype : ArrayType} {ty : FieldType} {N' : Nat} {nn : Int32} {a0 : vp_A} (hx : p.tables.exec = Jvm.exec) (hb : c.code = cc) (hT : ∀ w ∈ zt, w.before args s = true) (harr : Cond.arrayClass (newarray.typeOf atype) ∈ zt) (hty : newarray.typeOf atype = ty) (hK : zK D cy s) (hP : va_P D vwCl ws H) (hD : va_D A ws) (hS : va_S A H0 H locs) (hA : ∀ q, H0.size ≤ q → A q) (t0 : Nat) (ht : (zty cy)[t0]? = some (cy t0, ty)) (hra : ∀ k, va_RA s k ty → s.vm.findClass ("[" ++ ty.toString) = some k)
    (ha : ∀ cA : ClassId, vp_cell cA a0 = arrV cA N' (fun _ => defaultValue ty)) (hn : ¬ nn < 0) (hN : nn.toNatClampNeg = N') (hbytes : N' * componentBytes ty ≤ 536870912) (hcells : cells + 1 ≤ R.cells) (hslots : slots + N' ≤ R.slots) (hdg : decode cc pc = .ok (.newarray atype, 2))
    (kk : ∀ (q : Nat) (H1 : Heap), va_P D vwCl (ws ++ [(q, .inl (cy t0, a0))]) H1 → va_D A (ws ++ [(q, .inl (cy t0, a0))]) → va_S A H0 H1 locs → W p l e R s m args below meth c H1 locs (cells + 1) (slots + N') Q (F0 m (pc + 2) ls (.ref q :: rest))) : W p l e R s m args below meth c H locs cells slots Q (F0 m pc ls (.int nn :: rest)) := by
  refine va_newa hx hb (hT _ harr) hty hK.1 hP hD hS hA ha hn hN hbytes hcells hslots hdg (fun q cA H1 hK2 hP2 hD2 hS2 => ?_)
  have h1 := hra _ (hK.1.2 t0 _ ht).2
  have h2 := hra _ (hK2.2 5 (cA, ty) rfl).2
  have h3 : cA = cy t0 := Option.some.inj (h2.symm.trans h1)
  subst h3
  exact kk q H1 hP2 hD2 hS2
theorem znewq {N' : Nat} {nn : Int32} (hx : p.tables.exec = Jvm.exec) (hb : c.code = cc) (hown : s.vm.findClass own = some m.cls) (hT : ∀ w ∈ zt, w.before args s = true) (hcl : Cond.classLink own index "ChordHerds$Earnest" ∈ zt) (hO : va_AO "ChordHerds$Earnest" s) (hK : zK D cy s) (hP : va_P D vwCl ws H) (hD : va_D A ws) (hS : va_S A H0 H locs) (hA : ∀ q, H0.size ≤ q → A q)
    (hn : ¬ nn < 0) (hN : nn.toNatClampNeg = N') (hbytes : N' * 4 ≤ 536870912) (hcells : cells + 1 ≤ R.cells) (hslots : slots + N' ≤ R.slots) (hdg : decode cc pc = .ok (.anewarray index, 3))
    (kk : ∀ (q : Nat) (H1 : Heap), va_P D vwCl (ws ++ [(q, .inl (cy 4, N', .inr (.inr (.inr (.inr (fun _ => none))))))]) H1 → va_D A (ws ++ [(q, .inl (cy 4, N', .inr (.inr (.inr (.inr (fun _ => none))))))]) → va_S A H0 H1 locs → W p l e R s m args below meth c H1 locs (cells + 1) (slots + N') Q (F0 m (pc + 3) ls (.ref q :: rest))) : W p l e R s m args below meth c H locs cells slots Q (F0 m pc ls (.int nn :: rest)) := by
  refine va_newq hx hb hown (hT _ hcl) hO hK.1 hP hD hS hA hn hN hbytes hcells hslots hdg (fun q cA H1 hK2 hP2 hD2 hS2 => ?_)
  obtain ⟨_, _, _, _, _, h1⟩ := (hK.1.2 4 (cy 4, .object "ChordHerds$Earnest") rfl).2
  obtain ⟨_, _, _, _, _, h2⟩ := (hK2.2 5 (cA, .object "ChordHerds$Earnest") rfl).2
  have h3 : cA = cy 4 := Option.some.inj (h2.symm.trans h1)
  subst h3
  exact kk q H1 hP2 hD2 hS2
theorem znew {T : u_T} {k0 ci : Nat} {fs : List Value} {ty : Nat → FieldType} (hx : p.tables.exec = Jvm.exec) (hb : c.code = cc) (hown : s.vm.findClass own = some m.cls) (hT : ∀ w ∈ zt, w.before args s = true) (hK : zK D cy s) (hP : va_P D vwCl ws H) (hD : va_D A ws) (hS : va_S A H0 H locs) (hA : ∀ q, H0.size ≤ q → A q) (hin : ∀ w ∈ u_ws C T k0, w ∈ zt) (hc : vwCl[ci]? = some (C, T, k0)) (hty : ∀ k, k < k0 → parseFieldDescriptor (T k).2.2.1 = some (ty k)) (hcl : Cond.classLink own index C ∈ zt) (hins : Cond.instantiable C k0 ∈ zt) (hini : Cond.initialized C ∈ zt) (hfs : ∀ j, j < k0 → defaultValue (ty j) = vp_V fs j) (hcells : cells + 1 ≤ R.cells) (hslots : slots + k0 ≤ R.slots) (hdg : decode cc pc = .ok (.new index, 3))
    (kk : ∀ (q : Nat) (H1 : Heap), va_P D vwCl (ws ++ [(q, .inr (ci, fs))]) H1 → va_D A (ws ++ [(q, .inr (ci, fs))]) → va_S A H0 H1 locs → W p l e R s m args below meth c H1 locs (cells + 1) (slots + k0) Q (F0 m (pc + 3) ls (.ref q :: rest))) : W p l e R s m args below meth c H locs cells slots Q (F0 m pc ls rest) :=
  va_new hx hb hT hin ty hty hown (hT _ hcl) (hT _ hins) (hT _ hini) hK.1 hP hD hS hA hc hfs hcells hslots hdg kk
theorem zputF {T : u_T} {k0 ci : Nat} {fs fs' : List Value} {o : Nat} {ty : Nat → FieldType} (hx : p.tables.exec = Jvm.exec) (hb : c.code = cc) (hown : s.vm.findClass own = some m.cls) (hT : ∀ w ∈ zt, w.before args s = true) (hK : zK D cy s) (hP : va_P D vwCl ws H) (hD : va_D A ws) (hS : va_S A H0 H locs) (hin : ∀ w ∈ u_ws C T k0, w ∈ zt) (hc : vwCl[ci]? = some (C, T, k0)) (hsame : ∀ k, k < k0 → (T k).1 = C) (hty : ∀ k, k < k0 → parseFieldDescriptor (T k).2.2.1 = some (ty k)) (hnm : ∀ a, a < k0 → ∀ b, b < k0 → a ≠ b → (T a).2.1 ≠ (T b).2.1) (q0 : Nat) (he : ws[q0]? = some (o, .inr (ci, fs))) (k : Nat) (hk : k < k0) (hlink : Cond.fieldLink own index C (T k).2.1 (T k).2.2.1 ∈ zt) (hfin : (T k).2.2.2 = true) (hi2 : meth.name = "<init>") (hoc : C = own) {v : Value} (hn : narrow (ty k) v = v) (hfit : fits (ty k) v = true) (hl : k < fs.length) (hset : fs.set k v = fs') (hw : ws.set q0 (o, .inr (ci, fs')) = ws') (hdg : decode cc pc = .ok (.putfield index, 3))
    (kk : ∀ (H1 : Heap) (locs1 : List Loc), va_P D vwCl ws' H1 → va_D A ws' → va_S A H0 H1 locs1 → W p l e R s m args below meth c H1 locs1 cells slots Q (F0 m (pc + 3) ls rest)) : W p l e R s m args below meth c H locs cells slots Q (F0 m pc ls (v :: .ref o :: rest)) := by
  subst hset
  subst hw
  exact va_putF (ref := C) hx hb hT hin ty hty hnm hown hK.1 hP hD hS q0 he hc k hk (hT _ hlink) (fun x h9 => by rw [hsame k hk] at h9; exact h9) hfin hi2 ((hsame k hk).trans hoc) (hty k hk) hn hfit hl hdg kk
theorem zasq {f : Nat → Option Nat} {a9 v n9 ci : Nat} {i : Int32} {vs : List Value} {r : vw_C} (hx : p.tables.exec = Jvm.exec) (hb : c.code = cc) (hK : zK D cy s) (hP : va_P D vwCl ws H) (hD : va_D A ws) (hS : va_S A H0 H locs) (q0 qk : Nat) (ha : ws[q0]? = some (a9, .inl (cy 4, n9, .inr (.inr (.inr (.inr f)))))) (hv : ws[qk]? = some (v, .inr (ci, vs))) (hc : vwCl[ci]? = some r) (hr : r.1 = "ChordHerds$Earnest") (hin : vp_in i n9) (hw : ws.set q0 (a9, .inl (cy 4, n9, .inr (.inr (.inr (.inr (va_up f i.toNatClampNeg (some v))))))) = ws') (hdg : decode cc pc = .ok (.aastore, 1))
    (kk : ∀ (H1 : Heap) (locs1 : List Loc), va_P D vwCl ws' H1 → va_D A ws' → va_S A H0 H1 locs1 → W p l e R s m args below meth c H1 locs1 cells slots Q (F0 m (pc + 1) ls rest)) : W p l e R s m args below meth c H locs cells slots Q (F0 m pc ls (.ref v :: .int i :: .ref a9 :: rest)) := by
  subst hw
  exact va_astq hx hb hK.1 hP hD hS q0 4 qk ci ha (by rw [hr]; rfl) hv hc hin hdg kk
/-- a constructor's contract out of its walk -/
theorem zentI {av : List Value} {sz mc ms : Nat} {w2 : (Nat → Nat → Nat) → va_W} (hy : plainFor y = true) (hnm : y.name = "<init>") (hlen : (lg_sl av).length ≤ maxL)
    (walk : ∀ (p : Program) (e : Env) (s : State) (m : MethodId) (below : List Frame) (meth : Method) (c : Code) (A : Nat → Prop), zCx p s m av.toArray meth c cc maxL none y.cls D cy → va_AO "ChordHerds$Earnest" s → meth.name = "<init>" → (∀ q, s.heap.size ≤ q → A q) → va_P D vwCl ws s.heap → va_D A ws → va_S A s.heap s.heap [] → ∀ ls : Array Slot, lv_has ls maxL (lv_args 0 av) → W p l e rm s m av.toArray below meth c s.heap [] 0 0 (MQ below (zQu D cy w2 A) av.toArray s mc ms A) (F0 m 0 ls [])) :
    Met l y (.code y cc maxL none :: zt) rm (va_Pc av (zPreI D cy ws sz)) (zQu D cy w2 (va_A ws sz)) mc ms (va_A ws sz) := by
  refine va_MetF (cc := cc) (maxL := maxL) (ret := none) hy rfl ?_
  intro p e s m args below meth c s₁ B hml hv
  obtain ⟨rfl, ⟨hsz, hP, hK, hD0⟩, hO⟩ := hv
  have hts := atoms_spec (ws := .code y cc maxL none :: zt) B.pre
  rw [lg_entry_eq]
  subst hsz
  exact walk p e s m below meth c _ ⟨B.exec, B.bytes, B.returns, hml, findClass_of_methodNamed B.named, fun w h => hts w (List.mem_cons_of_mem _ h), B.notSynchronized, hK⟩ hO ((name_of_methodNamed B.named B.method).1.trans hnm) (fun q h => Or.inr h) hP (hD0.self (sz := s.heap.size)) va_S.rf _ (lv_entry av hlen)
theorem zeiv {w2 : (Nat → Nat → Nat) → va_W} (u : Nat → Nat → Nat) (hx : p.tables.exec = Jvm.exec) (hb : c.code = cc) (hr : meth.sig.returnType = none) (hk : meth.locks = false) (hP : va_P D vwCl ws H) (hD : va_D A ws) (hS : va_S A s.heap H locs) (is : List Nat) (h2 : va_nd is = true) (hs : is.map (fun i => ws[i]?) = (w2 u).map some) (hs2 : is.filterMap (fun i => ws[i]?) = w2 u) (hdg : decode cc pc = .ok (.return_, 1)) : W p l e R s m args below meth c H locs cells slots (MQ below (zQu D cy w2 A) args s cells slots A) (F0 m pc ls []) :=
  W.vret hx hb hr (fun t ht hW => ⟨⟨u, rfl, trivial, by rw [ht]; exact hP.sub is hs2, hD.sub is h2 hs⟩, hS.F ht⟩) hS.2.2 hdg hk
/-- a contract out of the walk from its entry: of a reading method, of a writing one -/
theorem zentR {av : List Value} (hy : plainFor y = true) (hlen : (lg_sl av).length ≤ maxL)
    (walk : ∀ (p : Program) (e : Env) (s : State) (m : MethodId) (below : List Frame) (meth : Method) (c : Code), zCx p s m av.toArray meth c cc maxL ret y.cls D cy → va_P D vwCl ws s.heap → ∀ ls : Array Slot, lv_has ls maxL (lv_args 0 av) → W p l e rm s m av.toArray below meth c s.heap [] 0 0 (MQ below Qc av.toArray s 0 0 (fun _ => False)) (F0 m 0 ls [])) :
    Met l y (.code y cc maxL ret :: zt) rm (va_Pc av (zRd D cy ws)) Qc 0 0 (fun _ => False) := by
  refine va_MetF (cc := cc) (maxL := maxL) (ret := ret) hy rfl ?_
  intro p e s m args below meth c s₁ B hml hv
  obtain ⟨rfl, hP, hK⟩ := hv
  have hts := atoms_spec (ws := .code y cc maxL ret :: zt) B.pre
  rw [lg_entry_eq]
  exact walk p e s m below meth c ⟨B.exec, B.bytes, B.returns, hml, findClass_of_methodNamed B.named, fun w h => hts w (List.mem_cons_of_mem _ h), B.notSynchronized, hK⟩ hP _ (lv_entry av hlen)
theorem zentW {av : List Value} {sz : Nat} {Qw : (Nat → Prop) → Array Value → State → Outcome → State → Prop} (hy : plainFor y = true) (hlen : (lg_sl av).length ≤ maxL)
    (walk : ∀ (p : Program) (e : Env) (s : State) (m : MethodId) (below : List Frame) (meth : Method) (c : Code) (A : Nat → Prop), zCx p s m av.toArray meth c cc maxL ret y.cls D cy → (∀ q, s.heap.size ≤ q → A q) → va_P D vwCl ws s.heap → va_D A ws → va_S A s.heap s.heap [] → ∀ ls : Array Slot, lv_has ls maxL (lv_args 0 av) → W p l e rm s m av.toArray below meth c s.heap [] 0 0 (MQ below (Qw A) av.toArray s 0 0 A) (F0 m 0 ls [])) :
    Met l y (.code y cc maxL ret :: zt) rm (va_Pc av (zPre D cy ws sz)) (Qw (va_A ws sz)) 0 0 (va_A ws sz) := by
  refine va_MetF (cc := cc) (maxL := maxL) (ret := ret) hy rfl ?_
  intro p e s m args below meth c s₁ B hml hv
  obtain ⟨rfl, hsz, hP, hK, hD0⟩ := hv
  have hts := atoms_spec (ws := .code y cc maxL ret :: zt) B.pre
  rw [lg_entry_eq]
  subst hsz
  exact walk p e s m below meth c _ ⟨B.exec, B.bytes, B.returns, hml, findClass_of_methodNamed B.named, fun w h => hts w (List.mem_cons_of_mem _ h), B.notSynchronized, hK⟩ (fun q h => Or.inr h) hP (hD0.self (sz := s.heap.size)) va_S.rf _ (lv_entry av hlen)
theorem zast {f : Nat → Int32} {cA : ClassId} {k a9 : Nat} {i x : Int32} (hx : p.tables.exec = Jvm.exec) (hb : c.code = cc) (hK : zK D cy s) (hP : va_P D vwCl ws H) (hD : va_D A ws) (hS : va_S A H0 H locs) (q0 t0 : Nat) (ha : ws[q0]? = some (a9, .inl (cA, k, .inl f))) (ht : (zty cy)[t0]? = some (cA, .int)) (hin : vp_in i k) (hw : ws.set q0 (a9, .inl (cA, k, .inl (upd f i.toNatClampNeg x))) = ws') (hdg : decode cc pc = .ok (.iastore, 1))
    (kk : ∀ (H1 : Heap) (locs1 : List Loc), va_P D vwCl ws' H1 → va_D A ws' → va_S A H0 H1 locs1 → W p l e R s m args below meth c H1 locs1 cells slots Q (F0 m (pc + 1) ls rest)) : W p l e R s m args below meth c H locs cells slots Q (F0 m pc ls (.int x :: .int i :: .ref a9 :: rest)) := by
  subst hw
  exact va_iast hx hb hK.1 hP hD hS q0 t0 ha ht hin hdg kk
theorem zbst {f : Nat → Int32} {cA : ClassId} {k a9 : Nat} {i x : Int32} (hx : p.tables.exec = Jvm.exec) (hb : c.code = cc) (hK : zK D cy s) (hP : va_P D vwCl ws H) (hD : va_D A ws) (hS : va_S A H0 H locs) (q0 t0 : Nat) (ha : ws[q0]? = some (a9, .inl (cA, k, .inl f))) (ht : (zty cy)[t0]? = some (cA, .byte)) (hin : vp_in i k) (hw : ws.set q0 (a9, .inl (cA, k, .inl (upd f i.toNatClampNeg (vp_nar .byte x)))) = ws') (hdg : decode cc pc = .ok (.bastore, 1))
    (kk : ∀ (H1 : Heap) (locs1 : List Loc), va_P D vwCl ws' H1 → va_D A ws' → va_S A H0 H1 locs1 → W p l e R s m args below meth c H1 locs1 cells slots Q (F0 m (pc + 1) ls rest)) : W p l e R s m args below meth c H locs cells slots Q (F0 m pc ls (.int x :: .int i :: .ref a9 :: rest)) := by
  subst hw
  exact va_bast hx hb hK.1 hP hD hS q0 t0 ha ht hin hdg kk
theorem zzst {f : Nat → Int32} {cA : ClassId} {k a9 : Nat} {i x : Int32} (hx : p.tables.exec = Jvm.exec) (hb : c.code = cc) (hK : zK D cy s) (hP : va_P D vwCl ws H) (hD : va_D A ws) (hS : va_S A H0 H locs) (q0 t0 : Nat) (ha : ws[q0]? = some (a9, .inl (cA, k, .inl f))) (ht : (zty cy)[t0]? = some (cA, .boolean)) (hin : vp_in i k) (hv : vp_nar .boolean x = x) (hw : ws.set q0 (a9, .inl (cA, k, .inl (upd f i.toNatClampNeg x))) = ws') (hdg : decode cc pc = .ok (.bastore, 1))
    (kk : ∀ (H1 : Heap) (locs1 : List Loc), va_P D vwCl ws' H1 → va_D A ws' → va_S A H0 H1 locs1 → W p l e R s m args below meth c H1 locs1 cells slots Q (F0 m (pc + 1) ls rest)) : W p l e R s m args below meth c H locs cells slots Q (F0 m pc ls (.int x :: .int i :: .ref a9 :: rest)) := by
  subst hw
  refine va_zast hx hb hK.1 hP hD hS q0 t0 ha ht hin hdg ?_
  rw [hv]
  exact kk
theorem zlst {f : Nat → Int64} {cA : ClassId} {k a9 : Nat} {i : Int32} {x : Int64} (hx : p.tables.exec = Jvm.exec) (hb : c.code = cc) (hK : zK D cy s) (hP : va_P D vwCl ws H) (hD : va_D A ws) (hS : va_S A H0 H locs) (q0 t0 : Nat) (ha : ws[q0]? = some (a9, .inl (cA, k, .inr (.inl f)))) (ht : (zty cy)[t0]? = some (cA, .long)) (hin : vp_in i k) (hw : ws.set q0 (a9, .inl (cA, k, .inr (.inl (vp_updL f i.toNatClampNeg x)))) = ws') (hdg : decode cc pc = .ok (.lastore, 1))
    (kk : ∀ (H1 : Heap) (locs1 : List Loc), va_P D vwCl ws' H1 → va_D A ws' → va_S A H0 H1 locs1 → W p l e R s m args below meth c H1 locs1 cells slots Q (F0 m (pc + 1) ls rest)) : W p l e R s m args below meth c H locs cells slots Q (F0 m pc ls (.long x :: .int i :: .ref a9 :: rest)) := by
  subst hw
  exact va_last hx hb hK.1 hP hD hS q0 t0 ha ht hin hdg kk
theorem zcpi {f g : Nat → Int32} {c0 c1 : ClassId} {n0 n1 a0 a1 : Nat} {sp dp k : Int32} (hx : p.tables.exec = Jvm.exec) (hb : c.code = cc) (hml : c.maxLocals = nL) (hsz : ls.size = nL) (hown : s.vm.findClass own = some m.cls) (hT : ∀ w ∈ zt, w.before args s = true) (hlink : Cond.methodLink own index arraycopyName ∈ zt) (hnat : Cond.native arraycopyName ∈ zt) (hstat : Cond.static arraycopyName ∈ zt) (hini : Cond.initialized "java/lang/System" ∈ zt)
    (hK : zK D cy s) (hP : va_P D vwCl ws H) (hD : va_D A ws) (hS : va_S A H0 H locs) (q0 q1 : Nat) (ha0 : ws[q0]? = some (a0, .inl (c0, n0, .inl f))) (ha1 : ws[q1]? = some (a1, .inl (c1, n1, .inl g))) (ht0 : (zty cy)[0]? = some (c0, .int)) (ht1 : (zty cy)[0]? = some (c1, .int))
    (h : ¬ sp < 0 ∧ ¬ dp < 0 ∧ ¬ k < 0 ∧ sp.toNatClampNeg + k.toNatClampNeg ≤ n0 ∧ dp.toNatClampNeg + k.toNatClampNeg ≤ n1) (hframes : 1 ≤ R.frames) (hlocals : (rest.map fun v => v.category).sum + (nativeFrameWords "java/lang/System" "arraycopy" 5 + 11) ≤ R.locals) (hw : ws.set q1 (a1, .inl (c1, n1, .inl (va_cpy f g sp.toNatClampNeg dp.toNatClampNeg k.toNatClampNeg))) = ws') (hdg : decode cc pc = .ok (.invokestatic index, 3))
    (kk : ∀ (H1 : Heap) (locs1 : List Loc), va_P D vwCl ws' H1 → va_D A ws' → va_S A H0 H1 locs1 → W p l e R s m args below meth c H1 locs1 cells slots Q (F0 m (pc + 3) ls rest)) : W p l e R s m args below meth c H locs cells slots Q (F0 m pc ls (.int k :: .int dp :: .ref a1 :: .int sp :: .ref a0 :: rest)) := by
  subst hw
  exact va_copyi hx hb (by rw [hml, hsz]) hown (hT _ hlink) (hT _ hnat) (hT _ hstat) (hT _ hini) hK.1 hP hD hS q0 q1 0 0 ha0 ha1 ht0 ht1 rfl h.1 h.2.1 h.2.2.1 h.2.2.2.1 h.2.2.2.2 (fun i _ => rfl) hframes hlocals hdg kk
/-- a field is read, written -/
theorem zget {T : u_T} {k0 ci : Nat} {fs : List Value} {o : Nat} (hx : p.tables.exec = Jvm.exec) (hb : c.code = cc) (hown : s.vm.findClass own = some m.cls) (hT : ∀ w ∈ zt, w.before args s = true) (hK : zK D cy s) (hP : va_P D vwCl ws H) (hin : ∀ w ∈ u_ws C T k0, w ∈ zt) (hc : vwCl[ci]? = some (C, T, k0)) (hsame : ∀ k, k < k0 → (T k).1 = C) (q0 : Nat) (he : ws[q0]? = some (o, .inr (ci, fs))) (k : Nat) (hk : k < k0) (hlink : Cond.fieldLink own index C (T k).2.1 (T k).2.2.1 ∈ zt) {v : Value} (hv : fs[k]? = some v) (hdg : decode cc pc = .ok (.getfield index, 3))
    (kk : W p l e R s m args below meth c H locs cells slots Q (F0 m (pc + 3) ls (v :: rest))) : W p l e R s m args below meth c H locs cells slots Q (F0 m pc ls (.ref o :: rest)) :=
  va_get (ref := C) hx hb hT hin hown hK.1 hP q0 he hc k hk (hT _ hlink) (fun x h9 => by rw [hsame k hk] at h9; exact h9) hv hdg kk
theorem zput {T : u_T} {k0 ci : Nat} {fs fs' : List Value} {o : Nat} {ty : Nat → FieldType} (hx : p.tables.exec = Jvm.exec) (hb : c.code = cc) (hown : s.vm.findClass own = some m.cls) (hT : ∀ w ∈ zt, w.before args s = true) (hK : zK D cy s) (hP : va_P D vwCl ws H) (hD : va_D A ws) (hS : va_S A H0 H locs) (hin : ∀ w ∈ u_ws C T k0, w ∈ zt) (hc : vwCl[ci]? = some (C, T, k0)) (hsame : ∀ k, k < k0 → (T k).1 = C) (hty : ∀ k, k < k0 → parseFieldDescriptor (T k).2.2.1 = some (ty k)) (hnm : ∀ a, a < k0 → ∀ b, b < k0 → a ≠ b → (T a).2.1 ≠ (T b).2.1) (q0 : Nat) (he : ws[q0]? = some (o, .inr (ci, fs))) (k : Nat) (hk : k < k0) (hlink : Cond.fieldLink own index C (T k).2.1 (T k).2.2.1 ∈ zt) (hfin : (T k).2.2.2 = false) {v : Value} (hn : narrow (ty k) v = v) (hfit : fits (ty k) v = true) (hl : k < fs.length) (hset : fs.set k v = fs') (hw : ws.set q0 (o, .inr (ci, fs')) = ws') (hdg : decode cc pc = .ok (.putfield index, 3))
    (kk : ∀ (H1 : Heap) (locs1 : List Loc), va_P D vwCl ws' H1 → va_D A ws' → va_S A H0 H1 locs1 → W p l e R s m args below meth c H1 locs1 cells slots Q (F0 m (pc + 3) ls rest)) : W p l e R s m args below meth c H locs cells slots Q (F0 m pc ls (v :: .ref o :: rest)) := by
  subst hset
  subst hw
  exact va_put (ref := C) hx hb hT hin ty hty hnm hown hK.1 hP hD hS q0 he hc k hk (hT _ hlink) (fun x h9 => by rw [hsame k hk] at h9; exact h9) hfin (hty k hk) hn hfit hl hdg kk
end ZR
/-- none of the places of a table: outside it -/
theorem zsw {x : Int32} (hi : Nat) (hh : hi < 2 ^ 31) (h : ∀ k : Nat, k ≤ hi → ¬ x = nI k) : x.toInt < 0 ∨ (hi : Int) < x.toInt := by
  rcases Int.lt_or_le x.toInt 0 with h0 | h0
  · exact Or.inl h0
  · rcases Int.lt_or_le (hi : Int) x.toInt with h1 | h1
    · exact Or.inr h1
    · exfalso
      obtain ⟨j, hj, rfl⟩ := nI_of (x := x) (fun q => by have := Int32.lt_iff_toInt_lt.mp q; simp at this; omega)
      rw [nI_toInt hj] at h1
      exact h j (by omega) rfl
theorem zlk2 {x : Int32} {o0 o1 d : Int} (h0 : ¬ x = 0) (h1 : ¬ x = 1) : Op.lookupswitch.offset [(0, o0), (1, o1)] d x.toInt = d := (lv_osw h0 (by decide)).trans (lv_osw h1 (by decide))
