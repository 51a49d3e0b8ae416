theorem zarr {s : State} {args : Array Value} {ty : FieldType} (h : (Cond.arrayClass ty).before args s = true) (hra : ∀ k, s.vm.findClass ("[" ++ ty.toString) = some k → va_RA s k ty) : ∃ cA, ArrOfT s cA ty ∧ va_RA s cA ty := by
  obtain ⟨c, k, comp, h1, h2, h3⟩ := Cond.arrayClass_spec h
  exact ⟨c, fun n z => ⟨fun k h => (by cases h), k, h2, comp, h3⟩, hra c h1⟩
set_option maxHeartbeats 4000000 in
set_option maxRecDepth 100000 in
theorem zK_start {s : State} {args : Array Value} (hts : ∀ w ∈ lw_tbl, w.before args s = true) : ∃ (dC : Nat → ClassId) (dI : Nat → Nat → Nat) (cy : Nat → ClassId), zK (dC, dI) cy s ∧ va_AO "ChordHerds$Earnest" s := by
  have hT : ∀ w ∈ zt, w.before args s = true := fun w h => hts w (List.mem_filter.mp h).1
  obtain ⟨c0, i0, hn0⟩ := u_known (C := RX0) (T := TX0) (N := 6) (n := 6) hT inX0 (hT _ tb_247)
  obtain ⟨c1, i1, hn1⟩ := u_known (C := RX1) (T := TX1) (N := 10) (n := 10) hT inX1 (hT _ tb_379)
  obtain ⟨c2, i2, hn2⟩ := u_known (C := RX2) (T := TX2) (N := 3) (n := 3) hT inX2 (hT _ tb_416)
  obtain ⟨c3, i3, hn3⟩ := u_known (C := RX3) (T := TX3) (N := 6) (n := 6) hT inX3 (hT _ tb_168)
  obtain ⟨c4, i4, hn4⟩ := u_known (C := RX4) (T := TX4) (N := 8) (n := 8) hT inX4 (hT _ tb_200)
  obtain ⟨c5, i5, hn5⟩ := u_known (C := RX5) (T := TX5) (N := 11) (n := 11) hT inX5 (hT _ tb_330)
  obtain ⟨c6, i6, hn6⟩ := u_known (C := RX6) (T := TX6) (N := 7) (n := 7) hT inX6 (hT _ tb_32)
  obtain ⟨c7, i7, hn7⟩ := u_known (C := RX7) (T := TX7) (N := 14) (n := 14) hT inX7 (hT _ tb_275)
  obtain ⟨c8, i8, hn8⟩ := u_known (C := RX8) (T := TX8) (N := 6) (n := 6) hT inX8 (hT _ tb_26)
  obtain ⟨c9, i9, hn9⟩ := u_known (C := RX9) (T := TX9) (N := 15) (n := 15) hT inX9 (hT _ tb_88)
  obtain ⟨c10, i10, hn10⟩ := u_known (C := RX10) (T := TX10) (N := 17) (n := 17) hT inX10 (hT _ tb_18)
  obtain ⟨c11, i11, hn11⟩ := u_known (C := RX11) (T := TX11) (N := 64) (n := 64) hT inX11 (hT _ tb_997)
  obtain ⟨y0, hy0⟩ := zarr (ty := .int) (hT _ tb_64) (fun _ h => h)
  obtain ⟨y1, hy1⟩ := zarr (ty := .long) (hT _ tb_65) (fun _ h => h)
  obtain ⟨y2, hy2⟩ := zarr (ty := .byte) (hT _ tb_63) (fun _ h => h)
  obtain ⟨y3, hy3⟩ := zarr (ty := .boolean) (hT _ tb_1195) (fun _ h => h)
  have hO : va_AO "ChordHerds$Earnest" s := va_AO.of (A := args) (hts _ (List.mem_append_right _ (show (Jvm.Cond.arrayOver (Jvm.ClassFile.FieldType.object "ChordHerds$Earnest")) ∈ tables_1 from (List.mem_append_left _ (List.mem_of_getElem? (i := 198) (by rfl))))))
  obtain ⟨comp, y4, kk, e1, e2, e3, e4, e5⟩ := Cond.arrayOver_spec hO
  have hy4 : ArrOfT s y4 (.object "ChordHerds$Earnest") ∧ va_RA s y4 (.object "ChordHerds$Earnest") := ⟨fun n z => ⟨fun k h => (by cases h), kk, e3, comp, e4⟩, kk, comp, e3, e4, e1, e5⟩
  refine ⟨(fun k => if k = 0 then c0 else if k = 1 then c1 else if k = 2 then c2 else if k = 3 then c3 else if k = 4 then c4 else if k = 5 then c5 else if k = 6 then c6 else if k = 7 then c7 else if k = 8 then c8 else if k = 9 then c9 else if k = 10 then c10 else c11), (fun k => if k = 0 then i0 else if k = 1 then i1 else if k = 2 then i2 else if k = 3 then i3 else if k = 4 then i4 else if k = 5 then i5 else if k = 6 then i6 else if k = 7 then i7 else if k = 8 then i8 else if k = 9 then i9 else if k = 10 then i10 else i11), (fun k => if k = 0 then y0 else if k = 1 then y1 else if k = 2 then y2 else if k = 3 then y3 else y4), ⟨⟨?_, ?_⟩, ?_⟩, hO⟩
  · intro k q hq
    match k, hq with
    | 0, hq => cases hq; exact hn0
    | 1, hq => cases hq; exact hn1
    | 2, hq => cases hq; exact hn2
    | 3, hq => cases hq; exact hn3
    | 4, hq => cases hq; exact hn4
    | 5, hq => cases hq; exact hn5
    | 6, hq => cases hq; exact hn6
    | 7, hq => cases hq; exact hn7
    | 8, hq => cases hq; exact hn8
    | 9, hq => cases hq; exact hn9
    | 10, hq => cases hq; exact hn10
    | 11, hq => cases hq; exact hn11
    | k + 12, hq => simp [vwCl] at hq
  · intro k q hq
    match k, hq with
    | 0, hq => cases hq; exact hy0
    | 1, hq => cases hq; exact hy1
    | 2, hq => cases hq; exact hy2
    | 3, hq => cases hq; exact hy3
    | 4, hq => cases hq; exact hy4
    | k + 5, hq => simp [zty] at hq
  · exact List.forall_mem_cons.mpr ⟨va_Nw.of (A := args) rfl (hts _ (List.mem_append_right _ (show (Jvm.Cond.methodLinkNest "ChordHerds" (24 : Nat) ({ cls := "ChordHerds$Valley", name := "<init>", desc := "()V" } : Jvm.MethodName) "ChordHerds") ∈ tables_1 from (List.mem_append_left _ (List.mem_of_getElem? (i := 89) (by rfl)))))), List.forall_mem_cons.mpr ⟨va_Nw.of (A := args) rfl (hts _ (List.mem_append_right _ (show (Jvm.Cond.methodLinkNest "ChordHerds" (34 : Nat) ({ cls := "ChordHerds$Earnest", name := "<init>", desc := "()V" } : Jvm.MethodName) "ChordHerds") ∈ tables_1 from (List.mem_append_left _ (List.mem_of_getElem? (i := 169) (by rfl)))))), List.forall_mem_cons.mpr ⟨va_Nw.of (A := args) rfl (hts _ (List.mem_append_right _ (show (Jvm.Cond.methodLinkNest "ChordHerds" (45 : Nat) ({ cls := "ChordHerds$Entries", name := "<init>", desc := "()V" } : Jvm.MethodName) "ChordHerds") ∈ tables_1 from (List.mem_append_left _ (List.mem_of_getElem? (i := 201) (by rfl)))))), List.forall_mem_cons.mpr ⟨va_Nw.of (A := args) rfl (hts _ (List.mem_append_right _ (show (Jvm.Cond.methodLinkNest "ChordHerds" (56 : Nat) ({ cls := "ChordHerds$Bounds", name := "<init>", desc := "()V" } : Jvm.MethodName) "ChordHerds") ∈ tables_1 from (List.mem_append_right _ (List.mem_append_left _ (List.mem_of_getElem? (i := 8) (by rfl))))))), List.forall_mem_cons.mpr ⟨va_Nw.of (A := args) rfl (hts _ (List.mem_append_right _ (show (Jvm.Cond.methodLinkNest "ChordHerds" (63 : Nat) ({ cls := "ChordHerds$Sets", name := "<init>", desc := "()V" } : Jvm.MethodName) "ChordHerds") ∈ tables_1 from (List.mem_append_right _ (List.mem_append_left _ (List.mem_of_getElem? (i := 36) (by rfl))))))), List.forall_mem_cons.mpr ⟨va_Nw.of (A := args) rfl (hts _ (List.mem_append_right _ (show (Jvm.Cond.methodLinkNest "ChordHerds" (70 : Nat) ({ cls := "ChordHerds$Parting", name := "<init>", desc := "()V" } : Jvm.MethodName) "ChordHerds") ∈ tables_1 from (List.mem_append_right _ (List.mem_append_left _ (List.mem_of_getElem? (i := 91) (by rfl))))))), List.forall_mem_cons.mpr ⟨va_Nw.of (A := args) rfl (hts _ (List.mem_append_right _ (show (Jvm.Cond.methodLinkNest "ChordHerds" (77 : Nat) ({ cls := "ChordHerds$Creeps", name := "<init>", desc := "()V" } : Jvm.MethodName) "ChordHerds") ∈ tables_1 from (List.mem_append_right _ (List.mem_append_left _ (List.mem_of_getElem? (i := 140) (by rfl))))))), List.forall_mem_cons.mpr ⟨va_Nw.of (A := args) rfl (hts _ (List.mem_append_right _ (show (Jvm.Cond.methodLinkNest "ChordHerds" (84 : Nat) ({ cls := "ChordHerds$Dealer", name := "<init>", desc := "()V" } : Jvm.MethodName) "ChordHerds") ∈ tables_1 from (List.mem_append_right _ (List.mem_append_left _ (List.mem_of_getElem? (i := 177) (by rfl))))))), List.forall_mem_cons.mpr ⟨va_Nw.of (A := args) rfl (hts _ (List.mem_append_right _ (show (Jvm.Cond.methodLinkNest "ChordHerds$Bounds" (76 : Nat) ({ cls := "ChordHerds", name := "within", desc := "(III)Z" } : Jvm.MethodName) "ChordHerds") ∈ tables_1 from (List.mem_append_right _ (List.mem_append_right _ (List.mem_append_right _ (List.mem_append_left _ (List.mem_of_getElem? (i := 133) (by rfl))))))))), List.forall_mem_cons.mpr ⟨va_Nw.of (A := args) rfl (hts _ (List.mem_append_right _ (show (Jvm.Cond.methodLinkNest "ChordHerds$Creeps" (91 : Nat) ({ cls := "ChordHerds", name := "within", desc := "(III)Z" } : Jvm.MethodName) "ChordHerds") ∈ tables_1 from (List.mem_append_right _ (List.mem_append_right _ (List.mem_append_right _ (List.mem_append_left _ (List.mem_of_getElem? (i := 205) (by rfl))))))))), List.forall_mem_cons.mpr ⟨va_Nw.of (A := args) rfl (hts _ (List.mem_append_right _ (show (Jvm.Cond.methodLinkNest "ChordHerds$Reader" (66 : Nat) ({ cls := "ChordHerds", name := "within", desc := "(III)Z" } : Jvm.MethodName) "ChordHerds") ∈ tables_1 from (List.mem_append_right _ (List.mem_append_right _ (List.mem_append_left _ (List.mem_of_getElem? (i := 48) (by rfl)))))))), List.forall_mem_cons.mpr ⟨va_Nw.of (A := args) rfl (hts _ (List.mem_append_right _ (show (Jvm.Cond.methodLinkNest "ChordHerds$Valley" (59 : Nat) ({ cls := "ChordHerds", name := "within", desc := "(III)Z" } : Jvm.MethodName) "ChordHerds") ∈ tables_1 from (List.mem_append_right _ (List.mem_append_right _ (List.mem_append_left _ (List.mem_of_getElem? (i := 176) (by rfl)))))))), fun _ h => absurd h List.not_mem_nil⟩⟩⟩⟩⟩⟩⟩⟩⟩⟩⟩⟩
/-- all is 0 -/
def zz : zSt := (fun _ => 0, fun _ _ => 0, fun _ => 0, fun _ _ => 0)
theorem rmi_ok_Law_CH : rmi_CH.cells = 66 ∧ rmi_CH.slots = 3541 ∧ rmi_CH.frames + 1 ≤ room_1.frames ∧ 8 + (2 + 11) + rmi_CH.locals ≤ room_1.locals := by decide
theorem rmi_ok_Law_Mo : rmi_Mo.cells = 29 ∧ rmi_Mo.slots = 2229 ∧ rmi_Mo.frames + 1 ≤ room_1.frames ∧ 8 + (1 + 11) + rmi_Mo.locals ≤ room_1.locals := by decide
set_option maxHeartbeats 8000000 in
set_option maxRecDepth 100000 in
/-- the law, from its entry, where its pure function comes to an end -/
theorem law_start {p : Program} {e : Env} {s : State} {m : MethodId} {below : List Frame} {meth : Method} {c : Code} (l : Launch) {b L : Nat} {xs : Nat → Int32} (C0 : lw_At p s m meth c b L xs) (N n : Nat) (hp : Law_h18 N L xs n zz (zpI zz 3 (-1)) (zpI zz 1 (-1)) zz zz zz zz zz zz zz zz zz zz zz zz zz 0 = some ()) : W p l e room_1 s m #[Value.ref b] below meth c s.heap [] 0 0 (lw_Z below #[Value.ref b] s) (entryFrame m ([Value.ref b] : List Value).toArray 4) := by
  obtain ⟨hx, hb, hr, hml, hown, hts, hX, hbl, hk, hgv⟩ := id C0
  have hT : ∀ w ∈ zt, w.before #[Value.ref b] s = true := fun w h => hts w (List.mem_filter.mp h).1
  obtain ⟨dC, dI, cy, hK, hO⟩ := zK_start hts
  have hA : ∀ q : Nat, s.heap.size ≤ q → zLA s q := fun _ h => h
  have hS : va_S (zLA s) s.heap s.heap [] := va_S.rf
  have hP : va_P (dC, dI) vwCl [] s.heap := fun k q h => by simp at h
  have hD : va_D (zLA s) [] := ⟨fun i j p q h => by simp at h, fun k q h => by simp at h⟩
  have hl := lv_entry ([.ref b]) (n := 4) (Nat.le_of_ble_eq_true rfl)
  rw [lg_entry_eq]
  generalize (lg_sl ([.ref b]) ++ List.replicate (4 - (lg_sl ([.ref b])).length) Slot.unset).toArray = ls at hl ⊢
  have hl : lv_has ls 4 [(0, .ref b)] := hl
  refine znew (ci := 10) (fs := [.null, .int 0, .null, .null, .null, .null, .null, .int 0, .null, .int 0, .null, .int 0, .null, .null, .null, .null, .null]) hx hb hown hT hK hP hD hS hA inX10 rfl tyX10_ok tb_17 tb_18 tb_1 (by decide +kernel) (Nat.le_of_ble_eq_true rfl) (Nat.le_of_ble_eq_true rfl) dL_law_0 (fun q1 H hP hD hS => ?_)
  have hP : va_P (dC, dI) vwCl [(q1, .inr (10, [.null, .int 0, .null, .null, .null, .null, .null, .int 0, .null, .int 0, .null, .int 0, .null, .null, .null, .null, .null]))] H := hP
  have hD : va_D (zLA s) [(q1, .inr (10, [.null, .int 0, .null, .null, .null, .null, .null, .int 0, .null, .int 0, .null, .int 0, .null, .null, .null, .null, .null]))] := hD
  refine lv_dup hx hb dL_law_3 rfl ?_
  refine zwu (wr := []) (zIc (As := []) hx hb hml hown hT hl.1 (i_CH q1) tb_20 tb_1 tb_21 tb_19 hd_CH_init (zpI_ hK hO hP hD [0] (by decide) rfl rfl) rmi_ok_Law_CH rfl rfl (Nat.le_of_ble_eq_true rfl) dL_law_4 ⟨Nat.le_of_ble_eq_true rfl, Nat.le_of_ble_eq_true rfl⟩) hP hD hS hA [0] [] rfl rfl (by decide) (by decide) (fun u H locs hP hD hS => ?_)
  have hP : va_P (dC, dI) vwCl (wi_CH cy q1 u) H := hP
  have hD : va_D (zLA s) (wi_CH cy q1 u) := hD
  refine lv_astore_n (lv' := [(1, .ref q1), (0, .ref b)]) hx hb dL_law_7 rfl hl (by decide) rfl (fun ls hl => ?_)
  refine znew (ci := 11) (fs := [.null, .int 0, .int 0, .int 0, .int 0, .int 0, .int 0, .int 0, .int 0, .long 0, .null, .null, .null, .null, .null, .null, .null, .null, .null, .null, .null, .null, .int 0, .int 0, .int 0, .int 0, .int 0, .int 0, .int 0, .int 0, .int 0, .int 0, .int 0, .null, .int 0, .int 0, .int 0, .int 0, .int 0, .null, .null, .null, .null, .null, .null, .null, .null, .int 0, .int 0, .null, .int 0, .int 0, .int 0, .int 0, .int 0, .int 0, .null, .null, .int 0, .null, .null, .int 0, .null, .null]) hx hb hown hT hK hP hD hS hA inX11 rfl tyX11_ok tb_996 tb_997 tb_12 (by decide +kernel) (Nat.le_of_ble_eq_true rfl) (Nat.le_of_ble_eq_true rfl) dL_law_8 (fun q2 H hP hD hS => ?_)
  have hP : va_P (dC, dI) vwCl (wi_CH cy q1 u ++ [(q2, .inr (11, [.null, .int 0, .int 0, .int 0, .int 0, .int 0, .int 0, .int 0, .int 0, .long 0, .null, .null, .null, .null, .null, .null, .null, .null, .null, .null, .null, .null, .int 0, .int 0, .int 0, .int 0, .int 0, .int 0, .int 0, .int 0, .int 0, .int 0, .int 0, .null, .int 0, .int 0, .int 0, .int 0, .int 0, .null, .null, .null, .null, .null, .null, .null, .null, .int 0, .int 0, .null, .int 0, .int 0, .int 0, .int 0, .int 0, .int 0, .null, .null, .int 0, .null, .null, .int 0, .null, .null]))]) H := hP
  have hD : va_D (zLA s) (wi_CH cy q1 u ++ [(q2, .inr (11, [.null, .int 0, .int 0, .int 0, .int 0, .int 0, .int 0, .int 0, .int 0, .long 0, .null, .null, .null, .null, .null, .null, .null, .null, .null, .null, .null, .null, .int 0, .int 0, .int 0, .int 0, .int 0, .int 0, .int 0, .int 0, .int 0, .int 0, .int 0, .null, .int 0, .int 0, .int 0, .int 0, .int 0, .null, .null, .null, .null, .null, .null, .null, .null, .int 0, .int 0, .null, .int 0, .int 0, .int 0, .int 0, .int 0, .int 0, .null, .null, .int 0, .null, .null, .int 0, .null, .null]))]) := hD
  refine lv_dup hx hb dL_law_11 rfl ?_
  refine zwu (wr := (wi_CH cy q1 u)) (zIc (As := []) hx hb hml hown hT hl.1 (i_Mo q2) tb_999 tb_12 tb_1000 tb_998 hd_Mo_init (zpI_ hK hO hP hD [67] (by decide) rfl rfl) rmi_ok_Law_Mo rfl rfl (Nat.le_of_ble_eq_true rfl) dL_law_12 ⟨Nat.le_of_ble_eq_true rfl, Nat.le_of_ble_eq_true rfl⟩) hP hD hS hA [67] [0, 1, 2, 3, 4, 5, 6, 7, 8, 9, 10, 11, 12, 13, 14, 15, 16, 17, 18, 19, 20, 21, 22, 23, 24, 25, 26, 27, 28, 29, 30, 31, 32, 33, 34, 35, 36, 37, 38, 39, 40, 41, 42, 43, 44, 45, 46, 47, 48, 49, 50, 51, 52, 53, 54, 55, 56, 57, 58, 59, 60, 61, 62, 63, 64, 65, 66] rfl rfl (by decide) (by decide) (fun w H locs hP hD hS => ?_)
  have hP : va_P (dC, dI) vwCl (wi_CH cy q1 u ++ wi_Mo cy q2 w) H := hP
  have hD : va_D (zLA s) (wi_CH cy q1 u ++ wi_Mo cy q2 w) := hD
  refine lv_astore_n (lv' := [(2, .ref q2), (1, .ref q1), (0, .ref b)]) hx hb dL_law_15 rfl hl (by decide) rfl (fun ls hl => ?_)
  refine lv_iconst (v := 0) hx hb dL_law_16 (by decide) ?_
  refine lv_istore_n (lv' := [(3, .int 0), (2, .ref q2), (1, .ref q1), (0, .ref b)]) hx hb dL_law_17 rfl hl (by decide) rfl (fun ls hl => ?_)
  refine W.widen (k := 600000) (n := 7302250) (Nat.le_of_ble_eq_true rfl) (Nat.le_of_ble_eq_true rfl) ?_
  have hP : va_P (dC, dI) vwCl (wd_Law cy q1 (u 0) (zI zz) (zL zz) (zA zz 0) (zA zz 10) q2 (w 0) (upd (zI zz) 3 (-1)) (zL zz) (zA zz 0) (zB zz 10) (zA zz 11) (zA zz 12) (zA zz 13) (zA zz 14) (zA zz 15) (zA zz 16) (zA zz 17) (zA zz 18) (zA zz 19) (zA zz 20) (zA zz 21) (zA zz 33) (zA zz 39) (zA zz 40) (zA zz 41) (zA zz 42) (zA zz 43) (zA zz 44) (zA zz 45) (zA zz 46) (zA zz 49) (zA zz 56) (zA zz 57) (zA zz 59) (zA zz 60) (zA zz 62) (zA zz 63) (u 1) (upd (zI zz) 1 (-1)) (zL zz) (u 4) (zI zz) (zL zz) (zB zz 1) (zA zz 2) (zB zz 4) (zA zz 5) (zA zz 6) (zA zz 7) (zA zz 10) (zB zz 13) (zA zz 14) (u 2) (zI zz) (zL zz) (zA zz 1) (zA zz 2) (zB zz 3) (u 5) (zI zz) (zL zz) (zA zz 5) (u 6) (zI zz) (zL zz) (zA zz 1) (zA zz 2) (zA zz 3) (zA zz 4) (zA zz 5) (zA zz 6) (zA zz 7) (u 9) (zI zz) (zL zz) (u 3) (zI zz) (zL zz) (zB zz 1) (zA zz 2) (zB zz 4) (zA zz 5) (zA zz 6) (zA zz 7) (zA zz 10) (zB zz 13) (zA zz 14) (u 7) (zI zz) (zL zz) (zA zz 1) (zA zz 3) (zA zz 4) (zA zz 5) (u 8) (zI zz) (zL zz) (zA zz 8) (zA zz 9) (zA zz 10) (zA zz 11) (zA zz 12) (zA zz 13) (u 10) (zI zz) (zL zz) (zA zz 1) (zA zz 3) (zA zz 4) (zA zz 5) (zA zz 6) (zA zz 7) (u 11) (zI zz) (zL zz) (zA zz 2) (u 12) (u 13) (zI zz) (zL zz) (zA zz 5) (u 14) (zI zz) (zL zz) (zA zz 5) (u 15) (zI zz) (zL zz) (zA zz 5)) H := hP.sub [0, 1, 2, 67, 68, 69, 70, 71, 72, 73, 74, 75, 76, 77, 78, 79, 80, 81, 82, 83, 84, 85, 86, 87, 88, 89, 90, 91, 92, 93, 94, 95, 96, 3, 18, 19, 20, 21, 22, 23, 24, 25, 26, 27, 4, 5, 6, 7, 28, 29, 30, 31, 32, 33, 34, 35, 36, 37, 50, 8, 9, 10, 11, 12, 13, 14, 15, 16, 17, 38, 39, 40, 41, 42, 43, 44, 45, 46, 47, 48, 49, 51, 52, 53, 54, 55, 56, 57, 58, 59, 60, 61, 62, 63, 64, 65, 66] rfl
  have hD : va_D (zLA s) (wd_Law cy q1 (u 0) (zI zz) (zL zz) (zA zz 0) (zA zz 10) q2 (w 0) (upd (zI zz) 3 (-1)) (zL zz) (zA zz 0) (zB zz 10) (zA zz 11) (zA zz 12) (zA zz 13) (zA zz 14) (zA zz 15) (zA zz 16) (zA zz 17) (zA zz 18) (zA zz 19) (zA zz 20) (zA zz 21) (zA zz 33) (zA zz 39) (zA zz 40) (zA zz 41) (zA zz 42) (zA zz 43) (zA zz 44) (zA zz 45) (zA zz 46) (zA zz 49) (zA zz 56) (zA zz 57) (zA zz 59) (zA zz 60) (zA zz 62) (zA zz 63) (u 1) (upd (zI zz) 1 (-1)) (zL zz) (u 4) (zI zz) (zL zz) (zB zz 1) (zA zz 2) (zB zz 4) (zA zz 5) (zA zz 6) (zA zz 7) (zA zz 10) (zB zz 13) (zA zz 14) (u 2) (zI zz) (zL zz) (zA zz 1) (zA zz 2) (zB zz 3) (u 5) (zI zz) (zL zz) (zA zz 5) (u 6) (zI zz) (zL zz) (zA zz 1) (zA zz 2) (zA zz 3) (zA zz 4) (zA zz 5) (zA zz 6) (zA zz 7) (u 9) (zI zz) (zL zz) (u 3) (zI zz) (zL zz) (zB zz 1) (zA zz 2) (zB zz 4) (zA zz 5) (zA zz 6) (zA zz 7) (zA zz 10) (zB zz 13) (zA zz 14) (u 7) (zI zz) (zL zz) (zA zz 1) (zA zz 3) (zA zz 4) (zA zz 5) (u 8) (zI zz) (zL zz) (zA zz 8) (zA zz 9) (zA zz 10) (zA zz 11) (zA zz 12) (zA zz 13) (u 10) (zI zz) (zL zz) (zA zz 1) (zA zz 3) (zA zz 4) (zA zz 5) (zA zz 6) (zA zz 7) (u 11) (zI zz) (zL zz) (zA zz 2) (u 12) (u 13) (zI zz) (zL zz) (zA zz 5) (u 14) (zI zz) (zL zz) (zA zz 5) (u 15) (zI zz) (zL zz) (zA zz 5)) := hD.sub [0, 1, 2, 67, 68, 69, 70, 71, 72, 73, 74, 75, 76, 77, 78, 79, 80, 81, 82, 83, 84, 85, 86, 87, 88, 89, 90, 91, 92, 93, 94, 95, 96, 3, 18, 19, 20, 21, 22, 23, 24, 25, 26, 27, 4, 5, 6, 7, 28, 29, 30, 31, 32, 33, 34, 35, 36, 37, 50, 8, 9, 10, 11, 12, 13, 14, 15, 16, 17, 38, 39, 40, 41, 42, 43, 44, 45, 46, 47, 48, 49, 51, 52, 53, 54, 55, 56, 57, 58, 59, 60, 61, 62, 63, 64, 65, 66] (by decide) rfl
  exact k_Law_h18 ⟨hx, hb, hr, hml, hown, hT, hX, hbl, hk, hK⟩ n zz (zpI zz 3 (-1)) (zpI zz 1 (-1)) zz zz zz zz zz zz zz zz zz zz zz zz zz 0 hP hD hS hp ls (lv_sub hl [3, 2, 1, 0] rfl)
