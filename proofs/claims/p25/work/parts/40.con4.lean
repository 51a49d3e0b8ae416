def wd_Mo_note (cy : Nat → ClassId) (o0 : Nat) (a0 : Nat → Nat) (g0 : Nat → Int32) (h0 : Nat → Int64) (x0_16 : Nat → Int32) (x0_17 : Nat → Int32) (x0_19 : Nat → Int32) (x0_33 : Nat → Int32) (x0_39 : Nat → Int32) (x0_40 : Nat → Int32) (x0_41 : Nat → Int32) (x0_42 : Nat → Int32) (x0_43 : Nat → Int32) (x0_44 : Nat → Int32) (x0_45 : Nat → Int32) (x0_46 : Nat → Int32) : va_W := [(o0, .inr (11, fs_Mo a0 g0 h0)), (a0 16, .inl (cy 0, 11, .inl x0_16)), (a0 17, .inl (cy 0, 11, .inl x0_17)), (a0 19, .inl (cy 0, 4, .inl x0_19)), (a0 33, .inl (cy 0, 11, .inl x0_33)), (a0 39, .inl (cy 0, 40, .inl x0_39)), (a0 40, .inl (cy 0, 40, .inl x0_40)), (a0 41, .inl (cy 0, 40, .inl x0_41)), (a0 42, .inl (cy 0, 40, .inl x0_42)), (a0 43, .inl (cy 0, 40, .inl x0_43)), (a0 44, .inl (cy 0, 40, .inl x0_44)), (a0 45, .inl (cy 0, 40, .inl x0_45)), (a0 46, .inl (cy 0, 40, .inl x0_46))]
def rm_Mo_note : Room := { frames := 4, cells := 0, slots := 0, locals := 105 }
theorem rm_ok_Mo_note_Mo_entry : rm_Mo_entry.cells = 0 ∧ rm_Mo_entry.slots = 0 ∧ rm_Mo_entry.frames + 1 ≤ rm_Mo_note.frames ∧ 8 + (7 + 11) + rm_Mo_entry.locals ≤ rm_Mo_note.locals := by decide
theorem rm_ok_Mo_note_Mo_heard : rm_Mo_heard.cells = 0 ∧ rm_Mo_heard.slots = 0 ∧ rm_Mo_heard.frames + 1 ≤ rm_Mo_note.frames ∧ 8 + (5 + 11) + rm_Mo_heard.locals ≤ rm_Mo_note.locals := by decide
theorem rm_ok_Mo_note_Mo_isEar : rm_Mo_isEar.cells = 0 ∧ rm_Mo_isEar.slots = 0 ∧ rm_Mo_isEar.frames + 1 ≤ rm_Mo_note.frames ∧ 8 + (2 + 11) + rm_Mo_isEar.locals ≤ rm_Mo_note.locals := by decide
theorem rm_ok_Mo_note_Mo_isIn : rm_Mo_isIn.cells = 0 ∧ rm_Mo_isIn.slots = 0 ∧ rm_Mo_isIn.frames + 1 ≤ rm_Mo_note.frames ∧ 8 + (3 + 11) + rm_Mo_isIn.locals ≤ rm_Mo_note.locals := by decide
theorem rm_ok_Mo_note_Mo_isQuarter : rm_Mo_isQuarter.cells = 0 ∧ rm_Mo_isQuarter.slots = 0 ∧ rm_Mo_isQuarter.frames + 1 ≤ rm_Mo_note.frames ∧ 8 + (1 + 11) + rm_Mo_isQuarter.locals ≤ rm_Mo_note.locals := by decide
theorem rm_ok_Mo_note_Mo_isTone : rm_Mo_isTone.cells = 0 ∧ rm_Mo_isTone.slots = 0 ∧ rm_Mo_isTone.frames + 1 ≤ rm_Mo_note.frames ∧ 8 + (1 + 11) + rm_Mo_isTone.locals ≤ rm_Mo_note.locals := by decide
set_option maxHeartbeats 4000000 in
set_option maxRecDepth 100000 in
theorem k_Mo_note_b64 {p : Program} {l : Launch} {e : Env} {s : State} {m : MethodId} {args : Array Value} {below : List Frame} {meth : Method} {c : Code} {dC : Nat → ClassId} {dI : Nat → Nat → Nat} {cy : Nat → ClassId} {A : Nat → Prop} {o0 : Nat} {a0 : Nat → Nat} {N : Nat} {y : Int32 × zSt} (C0 : zCx p s m args meth c cX11_note 6 (some .int) RX11 (dC, dI) cy) (s0 : zSt) (v4 : Int32) (v5 : Int32) (t1 : Int32) (t2 : Int32) (t3 : Int32) (t4 : Int32) (t5 : Int32) (hA : ∀ q, s.heap.size ≤ q → A q) {H : Heap} {locs : List Loc} (hP : va_P (dC, dI) vwCl (wd_Mo_note cy o0 a0 (zI s0) (zL s0) (zA s0 16) (zA s0 17) (zA s0 19) (zA s0 33) (zA s0 39) (zA s0 40) (zA s0 41) (zA s0 42) (zA s0 43) (zA s0 44) (zA s0 45) (zA s0 46)) H) (hD : va_D A (wd_Mo_note cy o0 a0 (zI s0) (zL s0) (zA s0 16) (zA s0 17) (zA s0 19) (zA s0 33) (zA s0 39) (zA s0 40) (zA s0 41) (zA s0 42) (zA s0 43) (zA s0 44) (zA s0 45) (zA s0 46))) (hS : va_S A s.heap H locs) (hf : Mo_note_b64 N s0 v4 v5 t1 t2 t3 t4 t5 = some y) (ls : Array Slot) (hl : lv_has ls 6 [(4, .int v4), (5, .int v5)]) : W p l e rm_Mo_note s m args below meth c H locs 0 0 (MQ below (zQi y.1 (dC, dI) cy (wd_Mo_note cy o0 a0 (zI y.2) (zL y.2) (zA y.2 16) (zA y.2 17) (zA y.2 19) (zA y.2 33) (zA y.2 39) (zA y.2 40) (zA y.2 41) (zA y.2 42) (zA y.2 43) (zA y.2 44) (zA y.2 45) (zA y.2 46)) A) args s 0 0 A) (F0 m 64 ls [.int t5, .int t4, .int t3, .int t2, .int t1, .ref o0]) := by
  obtain ⟨hx, hb, hr, hml, hown, hT, hk, hK⟩ := id C0
  refine lv_iload hx hb dX11_note_64 (lv_at hl 1 rfl) ?_
  refine lv_iload hx hb dX11_note_66 (lv_at hl 0 rfl) ?_
  refine lv_iadd hx hb dX11_note_68 ?_
  obtain ⟨z1, hc2, hf⟩ := zbd_some hf
  refine zwi (wr := [(a0 16, .inl (cy 0, 11, .inl (zA s0 16))), (a0 17, .inl (cy 0, 11, .inl (zA s0 17))), (a0 19, .inl (cy 0, 4, .inl (zA s0 19))), (a0 33, .inl (cy 0, 11, .inl (zA s0 33)))]) (ws' := (wd_Mo_note cy o0 a0 (zI z1.2) (zL z1.2) (zA s0 16) (zA s0 17) (zA s0 19) (zA s0 33) (zA z1.2 39) (zA z1.2 40) (zA z1.2 41) (zA z1.2 42) (zA z1.2 43) (zA z1.2 44) (zA z1.2 45) (zA z1.2 46))) (zV (As := [.int t1, .int t2, .int t3, .int t4, .int t5, .int (v5 + v4)]) hx hb hml hown hT hl.1 (c_Mo_entry o0 a0 s0 t1 t2 t3 t4 t5 (v5 + v4) hc2) zY_Mo_entry tb_1385 (zpRw hK hP hD [0, 5, 6, 7, 8, 9, 10, 11, 12] (by decide) rfl 0 11 rfl rfl rfl rfl) rm_ok_Mo_note_Mo_entry rfl rfl (Nat.le_of_ble_eq_true rfl) dX11_note_69 ⟨Nat.zero_le _, Nat.zero_le _⟩) hP hD hS hA [0, 5, 6, 7, 8, 9, 10, 11, 12] [1, 2, 3, 4] [4, 0, 1, 2, 3, 5, 6, 7, 8, 9, 10, 11, 12] rfl rfl (by decide) (by decide) (by decide) rfl rfl (fun H locs hP hD hS => ?_)
  cases hf
  exact zewi hx hb hr hk hK hP hD hS dX11_note_72
set_option maxHeartbeats 4000000 in
set_option maxRecDepth 100000 in
theorem k_Mo_note_b0 {p : Program} {l : Launch} {e : Env} {s : State} {m : MethodId} {args : Array Value} {below : List Frame} {meth : Method} {c : Code} {dC : Nat → ClassId} {dI : Nat → Nat → Nat} {cy : Nat → ClassId} {A : Nat → Prop} {o0 : Nat} {a0 : Nat → Nat} {N : Nat} {y : Int32 × zSt} (C0 : zCx p s m args meth c cX11_note 6 (some .int) RX11 (dC, dI) cy) (s0 : zSt) (v1 : Int32) (v2 : Int32) (v3 : Int32) (v4 : Int32) (hA : ∀ q, s.heap.size ≤ q → A q) {H : Heap} {locs : List Loc} (hP : va_P (dC, dI) vwCl (wd_Mo_note cy o0 a0 (zI s0) (zL s0) (zA s0 16) (zA s0 17) (zA s0 19) (zA s0 33) (zA s0 39) (zA s0 40) (zA s0 41) (zA s0 42) (zA s0 43) (zA s0 44) (zA s0 45) (zA s0 46)) H) (hD : va_D A (wd_Mo_note cy o0 a0 (zI s0) (zL s0) (zA s0 16) (zA s0 17) (zA s0 19) (zA s0 33) (zA s0 39) (zA s0 40) (zA s0 41) (zA s0 42) (zA s0 43) (zA s0 44) (zA s0 45) (zA s0 46))) (hS : va_S A s.heap H locs) (hf : Mo_note_b0 N s0 v1 v2 v3 v4 = some y) (ls : Array Slot) (hl : lv_has ls 6 [(0, .ref o0), (1, .int v1), (2, .int v2), (3, .int v3), (4, .int v4)]) : W p l e rm_Mo_note s m args below meth c H locs 0 0 (MQ below (zQi y.1 (dC, dI) cy (wd_Mo_note cy o0 a0 (zI y.2) (zL y.2) (zA y.2 16) (zA y.2 17) (zA y.2 19) (zA y.2 33) (zA y.2 39) (zA y.2 40) (zA y.2 41) (zA y.2 42) (zA y.2 43) (zA y.2 44) (zA y.2 45) (zA y.2 46)) A) args s 0 0 A) (F0 m 0 ls []) := by
  obtain ⟨hx, hb, hr, hml, hown, hT, hk, hK⟩ := id C0
  refine lv_iload_n hx hb dX11_note_0 rfl (lv_at hl 1 rfl) ?_
  obtain ⟨z1, hc2, hf⟩ := zbd_some hf
  refine zri (zS (As := [.int v1]) hx hb hml hown hT hl.1 (c_Mo_isQuarter v1 hc2) zY_Mo_isQuarter tb_1382 (zpS hK hP [] rfl) rm_ok_Mo_note_Mo_isQuarter rfl rfl (Nat.le_of_ble_eq_true rfl) dX11_note_1 ⟨Nat.zero_le _, Nat.zero_le _⟩) ?_
  refine lv_if_eq (tgt := 33) hx hb dX11_note_4 (by decide) (fun hb_3 => ?_) (fun hb_3 => ?_)
  · have hf := zif_t hb_3 hf
    refine lv_iconst (v := (-1)) hx hb dX11_note_33 (by decide) ?_
    cases hf
    exact zewi hx hb hr hk hK hP hD hS dX11_note_34
  · have hf := zif_f hb_3 hf
    refine lv_aload_n hx hb dX11_note_7 rfl (lv_at hl 0 rfl) ?_
    refine lv_iload_n hx hb dX11_note_8 rfl (lv_at hl 2 rfl) ?_
    obtain ⟨z4, hc5, hf⟩ := zbd_some hf
    refine zri (zV (As := [.int v2]) hx hb hml hown hT hl.1 (c_Mo_isEar o0 a0 s0 v2 hc5) zY_Mo_isEar tb_1333 (zpR hK hP [0] rfl 0 11 rfl rfl rfl) rm_ok_Mo_note_Mo_isEar rfl rfl (Nat.le_of_ble_eq_true rfl) dX11_note_9 ⟨Nat.zero_le _, Nat.zero_le _⟩) ?_
    refine lv_if_eq (tgt := 33) hx hb dX11_note_12 (by decide) (fun hb_6 => ?_) (fun hb_6 => ?_)
    · have hf := zif_t hb_6 hf
      refine lv_iconst (v := (-1)) hx hb dX11_note_33 (by decide) ?_
      cases hf
      exact zewi hx hb hr hk hK hP hD hS dX11_note_34
    · have hf := zif_f hb_6 hf
      refine lv_iload_n hx hb dX11_note_15 rfl (lv_at hl 3 rfl) ?_
      obtain ⟨z7, hc8, hf⟩ := zbd_some hf
      refine zri (zS (As := [.int v3]) hx hb hml hown hT hl.1 (c_Mo_isTone v3 hc8) zY_Mo_isTone tb_1337 (zpS hK hP [] rfl) rm_ok_Mo_note_Mo_isTone rfl rfl (Nat.le_of_ble_eq_true rfl) dX11_note_16 ⟨Nat.zero_le _, Nat.zero_le _⟩) ?_
      refine lv_if_eq (tgt := 33) hx hb dX11_note_19 (by decide) (fun hb_9 => ?_) (fun hb_9 => ?_)
      · have hf := zif_t hb_9 hf
        refine lv_iconst (v := (-1)) hx hb dX11_note_33 (by decide) ?_
        cases hf
        exact zewi hx hb hr hk hK hP hD hS dX11_note_34
      · have hf := zif_f hb_9 hf
        refine lv_iload hx hb dX11_note_22 (lv_at hl 4 rfl) ?_
        refine lv_iconst (v := 0) hx hb dX11_note_24 (by decide) ?_
        refine lv_bipush (v := 99) hx hb dX11_note_25 (by decide) ?_
        obtain ⟨z10, hc11, hf⟩ := zbd_some hf
        refine zri (zS (As := [.int v4, .int 0, .int 99]) hx hb hml hown hT hl.1 (c_Mo_isIn v4 0 99 hc11) zY_Mo_isIn tb_1319 (zpS hK hP [] rfl) rm_ok_Mo_note_Mo_isIn rfl rfl (Nat.le_of_ble_eq_true rfl) dX11_note_27 ⟨Nat.zero_le _, Nat.zero_le _⟩) ?_
        refine lv_if_ne (tgt := 35) hx hb dX11_note_30 (by decide) (fun hb_12 => ?_) (fun hb_12 => ?_)
        · have hf := zif_f hb_12 hf
          refine lv_aload_n hx hb dX11_note_35 rfl (lv_at hl 0 rfl) ?_
          refine lv_iload_n hx hb dX11_note_36 rfl (lv_at hl 2 rfl) ?_
          refine lv_iload_n hx hb dX11_note_37 rfl (lv_at hl 3 rfl) ?_
          obtain ⟨z13, hc14, hf⟩ := zbd_some hf
          refine zri (zV (As := [.int v2, .int v3]) hx hb hml hown hT hl.1 (c_Mo_heard o0 a0 s0 v2 v3 hc14) zY_Mo_heard tb_1340 (zpR hK hP [0, 1, 2, 3, 4] rfl 0 11 rfl rfl rfl) rm_ok_Mo_note_Mo_heard rfl rfl (Nat.le_of_ble_eq_true rfl) dX11_note_38 ⟨Nat.zero_le _, Nat.zero_le _⟩) ?_
          refine lv_istore (lv' := [(5, .int z13), (0, .ref o0), (1, .int v1), (2, .int v2), (3, .int v3), (4, .int v4)]) hx hb dX11_note_41 hl (by decide) rfl (fun ls hl => ?_)
          refine lv_aload_n hx hb dX11_note_43 rfl (lv_at hl 1 rfl) ?_
          refine lv_iconst (v := 0) hx hb dX11_note_44 (by decide) ?_
          refine lv_iload_n hx hb dX11_note_45 rfl (lv_at hl 2 rfl) ?_
          refine lv_iload_n hx hb dX11_note_46 rfl (lv_at hl 3 rfl) ?_
          refine lv_iload_n hx hb dX11_note_47 rfl (lv_at hl 4 rfl) ?_
          refine lv_iload hx hb dX11_note_48 (lv_at hl 0 rfl) ?_
          refine lv_iload hx hb dX11_note_50 (lv_at hl 5 rfl) ?_
          refine lv_icmp_ge (tgt := 59) hx hb dX11_note_52 (by decide) (fun hb_15 => ?_) (fun hb_15 => ?_)
          · have hf := zif_t hb_15 hf
            refine lv_iload hx hb dX11_note_59 (lv_at hl 0 rfl) ?_
            refine lv_iload hx hb dX11_note_61 (lv_at hl 5 rfl) ?_
            refine lv_isub hx hb dX11_note_63 ?_
            exact k_Mo_note_b64 C0 s0 v4 z13 0 v1 v2 v3 (z13 - v4)  hA hP hD hS hf _ (lv_sub hl [5, 0] rfl)
          · have hf := zif_f hb_15 hf
            refine lv_iconst (v := 0) hx hb dX11_note_55 (by decide) ?_
            refine lv_goto (tgt := 64) hx hb dX11_note_56 (by decide) ?_
            exact k_Mo_note_b64 C0 s0 v4 z13 0 v1 v2 v3 0  hA hP hD hS hf _ (lv_sub hl [5, 0] rfl)
        · have hf := zif_t hb_12 hf
          refine lv_iconst (v := (-1)) hx hb dX11_note_33 (by decide) ?_
          cases hf
          exact zewi hx hb hr hk hK hP hD hS dX11_note_34
set_option maxHeartbeats 4000000 in
set_option maxRecDepth 100000 in
theorem c_Mo_note {l : Launch} {dC : Nat → ClassId} {dI : Nat → Nat → Nat} {cy : Nat → ClassId} {sz : Nat} {N : Nat} (o0 : Nat) (a0 : Nat → Nat) (s0 : zSt) (v1 : Int32) (v2 : Int32) (v3 : Int32) (v4 : Int32) {y : Int32 × zSt} (hf : Mo_note N s0 v1 v2 v3 v4 = some y) : Met l yX11_note (.code yX11_note cX11_note 6 (some .int) :: zt) rm_Mo_note (va_Pc [.ref o0, .int v1, .int v2, .int v3, .int v4] (zPre (dC, dI) cy (wd_Mo_note cy o0 a0 (zI s0) (zL s0) (zA s0 16) (zA s0 17) (zA s0 19) (zA s0 33) (zA s0 39) (zA s0 40) (zA s0 41) (zA s0 42) (zA s0 43) (zA s0 44) (zA s0 45) (zA s0 46)) sz)) (zQi y.1 (dC, dI) cy (wd_Mo_note cy o0 a0 (zI y.2) (zL y.2) (zA y.2 16) (zA y.2 17) (zA y.2 19) (zA y.2 33) (zA y.2 39) (zA y.2 40) (zA y.2 41) (zA y.2 42) (zA y.2 43) (zA y.2 44) (zA y.2 45) (zA y.2 46)) (va_A (wd_Mo_note cy o0 a0 (zI s0) (zL s0) (zA s0 16) (zA s0 17) (zA s0 19) (zA s0 33) (zA s0 39) (zA s0 40) (zA s0 41) (zA s0 42) (zA s0 43) (zA s0 44) (zA s0 45) (zA s0 46)) sz)) 0 0 (va_A (wd_Mo_note cy o0 a0 (zI s0) (zL s0) (zA s0 16) (zA s0 17) (zA s0 19) (zA s0 33) (zA s0 39) (zA s0 40) (zA s0 41) (zA s0 42) (zA s0 43) (zA s0 44) (zA s0 45) (zA s0 46)) sz) :=
  zentW (Qw := fun A => (zQi y.1 (dC, dI) cy (wd_Mo_note cy o0 a0 (zI y.2) (zL y.2) (zA y.2 16) (zA y.2 17) (zA y.2 19) (zA y.2 33) (zA y.2 39) (zA y.2 40) (zA y.2 41) (zA y.2 42) (zA y.2 43) (zA y.2 44) (zA y.2 45) (zA y.2 46)) A)) (by decide +kernel) (Nat.le_of_ble_eq_true rfl) (fun p e s m below meth c A C0 hA hP hD hS ls hl => k_Mo_note_b0 C0 s0 v1 v2 v3 v4 hA hP hD hS hf ls hl)
def wd_Mo_untell (cy : Nat → ClassId) (o0 : Nat) (a0 : Nat → Nat) (g0 : Nat → Int32) (h0 : Nat → Int64) (x0_46 : Nat → Int32) : va_W := [(o0, .inr (11, fs_Mo a0 g0 h0)), (a0 46, .inl (cy 0, 40, .inl x0_46))]
def rm_Mo_untell : Room := { frames := 2, cells := 0, slots := 0, locals := 62 }
theorem rm_ok_Mo_untell_Mo_isIn : rm_Mo_isIn.cells = 0 ∧ rm_Mo_isIn.slots = 0 ∧ rm_Mo_isIn.frames + 1 ≤ rm_Mo_untell.frames ∧ 8 + (3 + 11) + rm_Mo_isIn.locals ≤ rm_Mo_untell.locals := by decide
set_option maxHeartbeats 4000000 in
set_option maxRecDepth 100000 in
theorem k_Mo_untell_b0 {p : Program} {l : Launch} {e : Env} {s : State} {m : MethodId} {args : Array Value} {below : List Frame} {meth : Method} {c : Code} {dC : Nat → ClassId} {dI : Nat → Nat → Nat} {cy : Nat → ClassId} {A : Nat → Prop} {o0 : Nat} {a0 : Nat → Nat} {N : Nat} {y : Int32 × zSt} (C0 : zCx p s m args meth c cX11_untell 2 (some .boolean) RX11 (dC, dI) cy) (s0 : zSt) (v1 : Int32) (hA : ∀ q, s.heap.size ≤ q → A q) {H : Heap} {locs : List Loc} (hP : va_P (dC, dI) vwCl (wd_Mo_untell cy o0 a0 (zI s0) (zL s0) (zA s0 46)) H) (hD : va_D A (wd_Mo_untell cy o0 a0 (zI s0) (zL s0) (zA s0 46))) (hS : va_S A s.heap H locs) (hf : Mo_untell_b0 N s0 v1 = some y) (ls : Array Slot) (hl : lv_has ls 2 [(0, .ref o0), (1, .int v1)]) : W p l e rm_Mo_untell s m args below meth c H locs 0 0 (MQ below (zQi y.1 (dC, dI) cy (wd_Mo_untell cy o0 a0 (zI y.2) (zL y.2) (zA y.2 46)) A) args s 0 0 A) (F0 m 0 ls []) := by
  obtain ⟨hx, hb, hr, hml, hown, hT, hk, hK⟩ := id C0
  refine lv_iload_n hx hb dX11_untell_0 rfl (lv_at hl 1 rfl) ?_
  refine lv_iconst (v := 0) hx hb dX11_untell_1 (by decide) ?_
  refine lv_aload_n hx hb dX11_untell_2 rfl (lv_at hl 0 rfl) ?_
  refine zget (v := .int (zI s0 47)) hx hb hown hT hK hP inX11 rfl smX11 0 rfl 47 (by decide) tb_1049 rfl dX11_untell_3 ?_
  refine lv_iconst (v := 1) hx hb dX11_untell_6 (by decide) ?_
  refine lv_isub hx hb dX11_untell_7 ?_
  obtain ⟨z1, hc2, hf⟩ := zbd_some hf
  refine zri (zS (As := [.int v1, .int 0, .int ((zI s0 47) - 1)]) hx hb hml hown hT hl.1 (c_Mo_isIn v1 0 ((zI s0 47) - 1) hc2) zY_Mo_isIn tb_1319 (zpS hK hP [] rfl) rm_ok_Mo_untell_Mo_isIn rfl rfl (Nat.le_of_ble_eq_true rfl) dX11_untell_8 ⟨Nat.zero_le _, Nat.zero_le _⟩) ?_
  refine lv_if_eq (tgt := 23) hx hb dX11_untell_11 (by decide) (fun hb_3 => ?_) (fun hb_3 => ?_)
  · have hf := zif_t hb_3 hf
    refine lv_iconst (v := 0) hx hb dX11_untell_23 (by decide) ?_
    cases hf
    exact zewz hx hb hr hk (Or.inl rfl) hK hP hD hS dX11_untell_24
  · have hf := zif_f hb_3 hf
    refine lv_aload_n hx hb dX11_untell_14 rfl (lv_at hl 0 rfl) ?_
    refine zget (v := .ref (a0 46)) hx hb hown hT hK hP inX11 rfl smX11 0 rfl 46 (by decide) tb_1048 rfl dX11_untell_15 ?_
    refine lv_iload_n hx hb dX11_untell_18 rfl (lv_at hl 1 rfl) ?_
    obtain ⟨hi4, hf⟩ := zck_some hf
    refine va_iald hx hb hK.1 hP 1 0 rfl rfl hi4 dX11_untell_19 ?_
    refine lv_if_lt (tgt := 25) hx hb dX11_untell_20 (by decide) (fun hb_5 => ?_) (fun hb_5 => ?_)
    · have hf := zif_t hb_5 hf
      refine lv_aload_n hx hb dX11_untell_25 rfl (lv_at hl 0 rfl) ?_
      refine zget (v := .ref (a0 46)) hx hb hown hT hK hP inX11 rfl smX11 0 rfl 46 (by decide) tb_1048 rfl dX11_untell_26 ?_
      refine lv_iload_n hx hb dX11_untell_29 rfl (lv_at hl 1 rfl) ?_
      refine lv_aload_n hx hb dX11_untell_30 rfl (lv_at hl 0 rfl) ?_
      refine zget (v := .int (zI s0 48)) hx hb hown hT hK hP inX11 rfl smX11 0 rfl 48 (by decide) tb_1050 rfl dX11_untell_31 ?_
      obtain ⟨hi6, hf⟩ := zck_some hf
      refine zast (ws' := (wd_Mo_untell cy o0 a0 (zI s0) (zL s0) (upd (zA s0 46) (Int32.toNatClampNeg v1) (zI s0 48)))) hx hb hK hP hD hS 1 0 rfl rfl hi6 rfl dX11_untell_34 (fun H locs hP hD hS => ?_)
      refine lv_iconst (v := 1) hx hb dX11_untell_35 (by decide) ?_
      cases hf
      exact zewz hx hb hr hk (Or.inr rfl) hK hP hD hS dX11_untell_36
    · have hf := zif_f hb_5 hf
      refine lv_iconst (v := 0) hx hb dX11_untell_23 (by decide) ?_
      cases hf
      exact zewz hx hb hr hk (Or.inl rfl) hK hP hD hS dX11_untell_24
set_option maxHeartbeats 4000000 in
set_option maxRecDepth 100000 in
theorem c_Mo_untell {l : Launch} {dC : Nat → ClassId} {dI : Nat → Nat → Nat} {cy : Nat → ClassId} {sz : Nat} {N : Nat} (o0 : Nat) (a0 : Nat → Nat) (s0 : zSt) (v1 : Int32) {y : Int32 × zSt} (hf : Mo_untell N s0 v1 = some y) : Met l yX11_untell (.code yX11_untell cX11_untell 2 (some .boolean) :: zt) rm_Mo_untell (va_Pc [.ref o0, .int v1] (zPre (dC, dI) cy (wd_Mo_untell cy o0 a0 (zI s0) (zL s0) (zA s0 46)) sz)) (zQi y.1 (dC, dI) cy (wd_Mo_untell cy o0 a0 (zI y.2) (zL y.2) (zA y.2 46)) (va_A (wd_Mo_untell cy o0 a0 (zI s0) (zL s0) (zA s0 46)) sz)) 0 0 (va_A (wd_Mo_untell cy o0 a0 (zI s0) (zL s0) (zA s0 46)) sz) :=
  zentW (Qw := fun A => (zQi y.1 (dC, dI) cy (wd_Mo_untell cy o0 a0 (zI y.2) (zL y.2) (zA y.2 46)) A)) (by decide +kernel) (Nat.le_of_ble_eq_true rfl) (fun p e s m below meth c A C0 hA hP hD hS ls hl => k_Mo_untell_b0 C0 s0 v1 hA hP hD hS hf ls hl)
def wd_Mo_later (cy : Nat → ClassId) (o0 : Nat) (a0 : Nat → Nat) (g0 : Nat → Int32) (h0 : Nat → Int64) : va_W := [(o0, .inr (11, fs_Mo a0 g0 h0))]
def rm_Mo_later : Room := { frames := 1, cells := 0, slots := 0, locals := 40 }
set_option maxHeartbeats 4000000 in
set_option maxRecDepth 100000 in
theorem k_Mo_later_b0 {p : Program} {l : Launch} {e : Env} {s : State} {m : MethodId} {args : Array Value} {below : List Frame} {meth : Method} {c : Code} {dC : Nat → ClassId} {dI : Nat → Nat → Nat} {cy : Nat → ClassId} {A : Nat → Prop} {o0 : Nat} {a0 : Nat → Nat} {N : Nat} {y : Int32 × zSt} (C0 : zCx p s m args meth c cX11_later 2 (some .int) RX11 (dC, dI) cy) (s0 : zSt) (v1 : Int32) (hA : ∀ q, s.heap.size ≤ q → A q) {H : Heap} {locs : List Loc} (hP : va_P (dC, dI) vwCl (wd_Mo_later cy o0 a0 (zI s0) (zL s0)) H) (hD : va_D A (wd_Mo_later cy o0 a0 (zI s0) (zL s0))) (hS : va_S A s.heap H locs) (hf : Mo_later_b0 N s0 v1 = some y) (ls : Array Slot) (hl : lv_has ls 2 [(0, .ref o0), (1, .int v1)]) : W p l e rm_Mo_later s m args below meth c H locs 0 0 (MQ below (zQi y.1 (dC, dI) cy (wd_Mo_later cy o0 a0 (zI y.2) (zL y.2)) A) args s 0 0 A) (F0 m 0 ls []) := by
  obtain ⟨hx, hb, hr, hml, hown, hT, hk, hK⟩ := id C0
  refine lv_iload_n hx hb dX11_later_0 rfl (lv_at hl 1 rfl) ?_
  refine lv_if_lt (tgt := 23) hx hb dX11_later_1 (by decide) (fun hb_1 => ?_) (fun hb_1 => ?_)
  · have hf := zif_t hb_1 hf
    refine lv_iconst (v := (-1)) hx hb dX11_later_23 (by decide) ?_
    cases hf
    exact zewi hx hb hr hk hK hP hD hS dX11_later_24
  · have hf := zif_f hb_1 hf
    refine lv_iload_n hx hb dX11_later_4 rfl (lv_at hl 1 rfl) ?_
    refine lv_sipush (v := 1000) hx hb dX11_later_5 (by decide) ?_
    refine lv_icmp_gt (tgt := 23) hx hb dX11_later_8 (by decide) (fun hb_2 => ?_) (fun hb_2 => ?_)
    · have hf := zif_t hb_2 hf
      refine lv_iconst (v := (-1)) hx hb dX11_later_23 (by decide) ?_
      cases hf
      exact zewi hx hb hr hk hK hP hD hS dX11_later_24
    · have hf := zif_f hb_2 hf
      refine lv_aload_n hx hb dX11_later_11 rfl (lv_at hl 0 rfl) ?_
      refine zget (v := .int (zI s0 48)) hx hb hown hT hK hP inX11 rfl smX11 0 rfl 48 (by decide) tb_1050 rfl dX11_later_12 ?_
      refine lv_iload_n hx hb dX11_later_15 rfl (lv_at hl 1 rfl) ?_
      refine lv_iadd hx hb dX11_later_16 ?_
      refine lv_ldcw (v := 100000) hx hb hown (hT _ tb_1405) dX11_later_17 ?_
      refine lv_icmp_le (tgt := 25) hx hb dX11_later_20 (by decide) (fun hb_3 => ?_) (fun hb_3 => ?_)
      · have hf := zif_t hb_3 hf
        refine lv_aload_n hx hb dX11_later_25 rfl (lv_at hl 0 rfl) ?_
        refine lv_dup hx hb dX11_later_26 rfl ?_
        refine zget (v := .int (zI s0 48)) hx hb hown hT hK hP inX11 rfl smX11 0 rfl 48 (by decide) tb_1050 rfl dX11_later_27 ?_
        refine lv_iload_n hx hb dX11_later_30 rfl (lv_at hl 1 rfl) ?_
        refine lv_iadd hx hb dX11_later_31 ?_
        refine zput (fs' := fs_Mo a0 (upd (zI s0) 48 ((zI s0 48) + v1)) (zL s0)) (ws' := (wd_Mo_later cy o0 a0 (upd (zI s0) 48 ((zI s0 48) + v1)) (zL s0))) hx hb hown hT hK hP hD hS inX11 rfl smX11 tyX11_ok nmX11 0 rfl 48 (by decide) tb_1050 rfl rfl rfl (Nat.le_of_ble_eq_true rfl) rfl rfl dX11_later_32 (fun H locs hP hD hS => ?_)
        refine lv_aload_n hx hb dX11_later_35 rfl (lv_at hl 0 rfl) ?_
        refine zget (v := .int ((zI s0 48) + v1)) hx hb hown hT hK hP inX11 rfl smX11 0 rfl 48 (by decide) tb_1050 rfl dX11_later_36 ?_
        cases hf
        exact zewi hx hb hr hk hK hP hD hS dX11_later_39
      · have hf := zif_f hb_3 hf
        refine lv_iconst (v := (-1)) hx hb dX11_later_23 (by decide) ?_
        cases hf
        exact zewi hx hb hr hk hK hP hD hS dX11_later_24
set_option maxHeartbeats 4000000 in
set_option maxRecDepth 100000 in
theorem c_Mo_later {l : Launch} {dC : Nat → ClassId} {dI : Nat → Nat → Nat} {cy : Nat → ClassId} {sz : Nat} {N : Nat} (o0 : Nat) (a0 : Nat → Nat) (s0 : zSt) (v1 : Int32) {y : Int32 × zSt} (hf : Mo_later N s0 v1 = some y) : Met l yX11_later (.code yX11_later cX11_later 2 (some .int) :: zt) rm_Mo_later (va_Pc [.ref o0, .int v1] (zPre (dC, dI) cy (wd_Mo_later cy o0 a0 (zI s0) (zL s0)) sz)) (zQi y.1 (dC, dI) cy (wd_Mo_later cy o0 a0 (zI y.2) (zL y.2)) (va_A (wd_Mo_later cy o0 a0 (zI s0) (zL s0)) sz)) 0 0 (va_A (wd_Mo_later cy o0 a0 (zI s0) (zL s0)) sz) :=
  zentW (Qw := fun A => (zQi y.1 (dC, dI) cy (wd_Mo_later cy o0 a0 (zI y.2) (zL y.2)) A)) (by decide +kernel) (Nat.le_of_ble_eq_true rfl) (fun p e s m below meth c A C0 hA hP hD hS ls hl => k_Mo_later_b0 C0 s0 v1 hA hP hD hS hf ls hl)
def wd_Mo_counts (cy : Nat → ClassId) (o0 : Nat) (a0 : Nat → Nat) (g0 : Nat → Int32) (h0 : Nat → Int64) (x0_39 : Nat → Int32) (x0_45 : Nat → Int32) (x0_46 : Nat → Int32) : va_W := [(o0, .inr (11, fs_Mo a0 g0 h0)), (a0 39, .inl (cy 0, 40, .inl x0_39)), (a0 45, .inl (cy 0, 40, .inl x0_45)), (a0 46, .inl (cy 0, 40, .inl x0_46))]
def rm_Mo_counts : Room := { frames := 1, cells := 0, slots := 0, locals := 40 }
set_option maxHeartbeats 4000000 in
set_option maxRecDepth 100000 in
theorem k_Mo_counts_b39 {p : Program} {l : Launch} {e : Env} {s : State} {m : MethodId} {args : Array Value} {below : List Frame} {meth : Method} {c : Code} {dC : Nat → ClassId} {dI : Nat → Nat → Nat} {cy : Nat → ClassId} {o0 : Nat} {a0 : Nat → Nat} {N : Nat} {y : Int32} (C0 : zCx p s m args meth c cX11_counts 4 (some .boolean) RX11 (dC, dI) cy) (s0 : zSt) (hP : va_P (dC, dI) vwCl (wd_Mo_counts cy o0 a0 (zI s0) (zL s0) (zA s0 39) (zA s0 45) (zA s0 46)) s.heap) (hf : Mo_counts_b39 N s0 = some y) (ls : Array Slot) (hl : lv_has ls 4 []) : W p l e rm_Mo_counts s m args below meth c s.heap [] 0 0 (MQ below (zSi y) args s 0 0 (fun _ => False)) (F0 m 39 ls []) := by
  obtain ⟨hx, hb, hr, hml, hown, hT, hk, hK⟩ := id C0
  refine lv_iconst (v := 1) hx hb dX11_counts_39 (by decide) ?_
  refine lv_goto (tgt := 44) hx hb dX11_counts_40 (by decide) ?_
  cases hf
  exact zerz hx hb hr hk (Or.inr rfl) dX11_counts_44
set_option maxHeartbeats 4000000 in
set_option maxRecDepth 100000 in
theorem k_Mo_counts_b0 {p : Program} {l : Launch} {e : Env} {s : State} {m : MethodId} {args : Array Value} {below : List Frame} {meth : Method} {c : Code} {dC : Nat → ClassId} {dI : Nat → Nat → Nat} {cy : Nat → ClassId} {o0 : Nat} {a0 : Nat → Nat} {N : Nat} {y : Int32} (C0 : zCx p s m args meth c cX11_counts 4 (some .boolean) RX11 (dC, dI) cy) (s0 : zSt) (v1 : Int32) (v2 : Int32) (v3 : Int32) (hP : va_P (dC, dI) vwCl (wd_Mo_counts cy o0 a0 (zI s0) (zL s0) (zA s0 39) (zA s0 45) (zA s0 46)) s.heap) (hf : Mo_counts_b0 N s0 v1 v2 v3 = some y) (ls : Array Slot) (hl : lv_has ls 4 [(0, .ref o0), (1, .int v1), (2, .int v2), (3, .int v3)]) : W p l e rm_Mo_counts s m args below meth c s.heap [] 0 0 (MQ below (zSi y) args s 0 0 (fun _ => False)) (F0 m 0 ls []) := by
  obtain ⟨hx, hb, hr, hml, hown, hT, hk, hK⟩ := id C0
  refine lv_aload_n hx hb dX11_counts_0 rfl (lv_at hl 0 rfl) ?_
  refine zget (v := .ref (a0 39)) hx hb hown hT hK hP inX11 rfl smX11 0 rfl 39 (by decide) tb_1041 rfl dX11_counts_1 ?_
  refine lv_iload_n hx hb dX11_counts_4 rfl (lv_at hl 1 rfl) ?_
  obtain ⟨hi1, hf⟩ := zck_some hf
  refine va_iald hx hb hK.1 hP 1 0 rfl rfl hi1 dX11_counts_5 ?_
  refine lv_iload_n hx hb dX11_counts_6 rfl (lv_at hl 2 rfl) ?_
  refine lv_icmp_ne (tgt := 43) hx hb dX11_counts_7 (by decide) (fun hb_2 => ?_) (fun hb_2 => ?_)
  · have hf := zif_f hb_2 hf
    refine lv_iconst (v := 0) hx hb dX11_counts_43 (by decide) ?_
    cases hf
    exact zerz hx hb hr hk (Or.inl rfl) dX11_counts_44
  · have hf := zif_t hb_2 hf
    refine lv_aload_n hx hb dX11_counts_10 rfl (lv_at hl 0 rfl) ?_
    refine zget (v := .ref (a0 45)) hx hb hown hT hK hP inX11 rfl smX11 0 rfl 45 (by decide) tb_1047 rfl dX11_counts_11 ?_
    refine lv_iload_n hx hb dX11_counts_14 rfl (lv_at hl 1 rfl) ?_
    obtain ⟨hi3, hf⟩ := zck_some hf
    refine va_iald hx hb hK.1 hP 2 0 rfl rfl hi3 dX11_counts_15 ?_
    refine lv_iload_n hx hb dX11_counts_16 rfl (lv_at hl 3 rfl) ?_
    refine lv_icmp_gt (tgt := 43) hx hb dX11_counts_17 (by decide) (fun hb_4 => ?_) (fun hb_4 => ?_)
    · have hf := zif_t hb_4 hf
      refine lv_iconst (v := 0) hx hb dX11_counts_43 (by decide) ?_
      cases hf
      exact zerz hx hb hr hk (Or.inl rfl) dX11_counts_44
    · have hf := zif_f hb_4 hf
      refine lv_aload_n hx hb dX11_counts_20 rfl (lv_at hl 0 rfl) ?_
      refine zget (v := .ref (a0 46)) hx hb hown hT hK hP inX11 rfl smX11 0 rfl 46 (by decide) tb_1048 rfl dX11_counts_21 ?_
      refine lv_iload_n hx hb dX11_counts_24 rfl (lv_at hl 1 rfl) ?_
      obtain ⟨hi5, hf⟩ := zck_some hf
      refine va_iald hx hb hK.1 hP 3 0 rfl rfl hi5 dX11_counts_25 ?_
      refine lv_if_lt (tgt := 39) hx hb dX11_counts_26 (by decide) (fun hb_6 => ?_) (fun hb_6 => ?_)
      · have hf := zif_t hb_6 hf
        exact k_Mo_counts_b39 C0 s0  hP hf _ (lv_sub hl [] rfl)
      · have hf := zif_f hb_6 hf
        refine lv_aload_n hx hb dX11_counts_29 rfl (lv_at hl 0 rfl) ?_
        refine zget (v := .ref (a0 46)) hx hb hown hT hK hP inX11 rfl smX11 0 rfl 46 (by decide) tb_1048 rfl dX11_counts_30 ?_
        refine lv_iload_n hx hb dX11_counts_33 rfl (lv_at hl 1 rfl) ?_
        obtain ⟨hi7, hf⟩ := zck_some hf
        refine va_iald hx hb hK.1 hP 3 0 rfl rfl hi7 dX11_counts_34 ?_
        refine lv_iload_n hx hb dX11_counts_35 rfl (lv_at hl 3 rfl) ?_
        refine lv_icmp_le (tgt := 43) hx hb dX11_counts_36 (by decide) (fun hb_8 => ?_) (fun hb_8 => ?_)
        · have hf := zif_t hb_8 hf
          refine lv_iconst (v := 0) hx hb dX11_counts_43 (by decide) ?_
          cases hf
          exact zerz hx hb hr hk (Or.inl rfl) dX11_counts_44
        · have hf := zif_f hb_8 hf
          exact k_Mo_counts_b39 C0 s0  hP hf _ (lv_sub hl [] rfl)
set_option maxHeartbeats 4000000 in
set_option maxRecDepth 100000 in
theorem c_Mo_counts {l : Launch} {dC : Nat → ClassId} {dI : Nat → Nat → Nat} {cy : Nat → ClassId} {N : Nat} (o0 : Nat) (a0 : Nat → Nat) (s0 : zSt) (v1 : Int32) (v2 : Int32) (v3 : Int32) {y : Int32} (hf : Mo_counts N s0 v1 v2 v3 = some y) : Met l yX11_counts (.code yX11_counts cX11_counts 4 (some .boolean) :: zt) rm_Mo_counts (va_Pc [.ref o0, .int v1, .int v2, .int v3] (zRd (dC, dI) cy (wd_Mo_counts cy o0 a0 (zI s0) (zL s0) (zA s0 39) (zA s0 45) (zA s0 46)))) (zSi y) 0 0 (fun _ => False) :=
  zentR (by decide +kernel) (Nat.le_of_ble_eq_true rfl) (fun p e s m below meth c C0 hP ls hl => k_Mo_counts_b0 C0 s0 v1 v2 v3 hP hf ls hl)
def wd_Mo_loudOfSet (cy : Nat → ClassId) (o0 : Nat) (a0 : Nat → Nat) (g0 : Nat → Int32) (h0 : Nat → Int64) (x0_16 : Nat → Int32) (x0_17 : Nat → Int32) (x0_19 : Nat → Int32) : va_W := [(o0, .inr (11, fs_Mo a0 g0 h0)), (a0 16, .inl (cy 0, 11, .inl x0_16)), (a0 17, .inl (cy 0, 11, .inl x0_17)), (a0 19, .inl (cy 0, 4, .inl x0_19))]
def rm_Mo_loudOfSet : Room := { frames := 2, cells := 0, slots := 0, locals := 66 }
theorem rm_ok_Mo_loudOfSet_Mo_loudAt : rm_Mo_loudAt.cells = 0 ∧ rm_Mo_loudAt.slots = 0 ∧ rm_Mo_loudAt.frames + 1 ≤ rm_Mo_loudOfSet.frames ∧ 8 + (7 + 11) + rm_Mo_loudAt.locals ≤ rm_Mo_loudOfSet.locals := by decide
set_option maxHeartbeats 4000000 in
set_option maxRecDepth 100000 in
theorem k_Mo_loudOfSet_b53 {p : Program} {l : Launch} {e : Env} {s : State} {m : MethodId} {args : Array Value} {below : List Frame} {meth : Method} {c : Code} {dC : Nat → ClassId} {dI : Nat → Nat → Nat} {cy : Nat → ClassId} {o0 : Nat} {a0 : Nat → Nat} {N : Nat} {kh6 : Int32 → Int32 → Option (Int32)} {y : Int32} (C0 : zCx p s m args meth c cX11_loudOfSet 8 (some .int) RX11 (dC, dI) cy) (s0 : zSt) (v1 : Int32) (v2 : Int32) (v3 : Int32) (v4 : Int32) (v5 : Int32) (v7 : Int32) (t0 : Int32) (t1 : Int32) (hk6 : ∀ (v6 : Int32) (v7 : Int32) (_ : kh6 v6 v7 = some y) (ls : Array Slot) (_ : lv_has ls 8 [(0, .ref o0), (1, .int v1), (2, .int v2), (3, .int v3), (4, .int v4), (5, .int v5), (6, .int v6), (7, .int v7)]), W p l e rm_Mo_loudOfSet s m args below meth c s.heap [] 0 0 (MQ below (zSi y) args s 0 0 (fun _ => False)) (F0 m 6 ls [])) (hP : va_P (dC, dI) vwCl (wd_Mo_loudOfSet cy o0 a0 (zI s0) (zL s0) (zA s0 16) (zA s0 17) (zA s0 19)) s.heap) (hf : Mo_loudOfSet_b53 N kh6 s0 v1 v2 v3 v4 v5 v7 t0 t1 = some y) (ls : Array Slot) (hl : lv_has ls 8 [(0, .ref o0), (1, .int v1), (2, .int v2), (3, .int v3), (4, .int v4), (5, .int v5), (7, .int v7)]) : W p l e rm_Mo_loudOfSet s m args below meth c s.heap [] 0 0 (MQ below (zSi y) args s 0 0 (fun _ => False)) (F0 m 53 ls [.int t1, .int t0]) := by
  obtain ⟨hx, hb, hr, hml, hown, hT, hk, hK⟩ := id C0
  refine lv_iadd hx hb dX11_loudOfSet_53 ?_
  refine lv_istore (lv' := [(6, .int (t0 + t1)), (0, .ref o0), (1, .int v1), (2, .int v2), (3, .int v3), (4, .int v4), (5, .int v5), (7, .int v7)]) hx hb dX11_loudOfSet_54 hl (by decide) rfl (fun ls hl => ?_)
  refine lv_iinc (v := v7 + 1) (lv' := [(7, .int (v7 + 1)), (6, .int (t0 + t1)), (0, .ref o0), (1, .int v1), (2, .int v2), (3, .int v3), (4, .int v4), (5, .int v5)]) hx hb dX11_loudOfSet_56 hl (k := 7) rfl rfl (by decide) rfl (fun ls hl => ?_)
  refine lv_goto (tgt := 6) hx hb dX11_loudOfSet_59 (by decide) ?_
  exact hk6 (t0 + t1) (v7 + 1) hf _ (lv_sub hl [2, 3, 4, 5, 6, 7, 1, 0] rfl)
set_option maxHeartbeats 4000000 in
set_option maxRecDepth 100000 in
theorem k_Mo_loudOfSet_b52 {p : Program} {l : Launch} {e : Env} {s : State} {m : MethodId} {args : Array Value} {below : List Frame} {meth : Method} {c : Code} {dC : Nat → ClassId} {dI : Nat → Nat → Nat} {cy : Nat → ClassId} {o0 : Nat} {a0 : Nat → Nat} {N : Nat} {kh6 : Int32 → Int32 → Option (Int32)} {y : Int32} (C0 : zCx p s m args meth c cX11_loudOfSet 8 (some .int) RX11 (dC, dI) cy) (s0 : zSt) (v1 : Int32) (v2 : Int32) (v3 : Int32) (v4 : Int32) (v5 : Int32) (v7 : Int32) (t0 : Int32) (hk6 : ∀ (v6 : Int32) (v7 : Int32) (_ : kh6 v6 v7 = some y) (ls : Array Slot) (_ : lv_has ls 8 [(0, .ref o0), (1, .int v1), (2, .int v2), (3, .int v3), (4, .int v4), (5, .int v5), (6, .int v6), (7, .int v7)]), W p l e rm_Mo_loudOfSet s m args below meth c s.heap [] 0 0 (MQ below (zSi y) args s 0 0 (fun _ => False)) (F0 m 6 ls [])) (hP : va_P (dC, dI) vwCl (wd_Mo_loudOfSet cy o0 a0 (zI s0) (zL s0) (zA s0 16) (zA s0 17) (zA s0 19)) s.heap) (hf : Mo_loudOfSet_b52 N kh6 s0 v1 v2 v3 v4 v5 v7 t0 = some y) (ls : Array Slot) (hl : lv_has ls 8 [(0, .ref o0), (1, .int v1), (2, .int v2), (3, .int v3), (4, .int v4), (5, .int v5), (7, .int v7)]) : W p l e rm_Mo_loudOfSet s m args below meth c s.heap [] 0 0 (MQ below (zSi y) args s 0 0 (fun _ => False)) (F0 m 52 ls [.int t0]) := by
  obtain ⟨hx, hb, hr, hml, hown, hT, hk, hK⟩ := id C0
  refine lv_iconst (v := 0) hx hb dX11_loudOfSet_52 (by decide) ?_
  exact k_Mo_loudOfSet_b53 C0 s0 v1 v2 v3 v4 v5 v7 t0 0 hk6 hP hf _ (lv_sub hl [0, 1, 2, 3, 4, 5, 6] rfl)
set_option maxHeartbeats 4000000 in
set_option maxRecDepth 100000 in
theorem k_Mo_loudOfSet_b6 {p : Program} {l : Launch} {e : Env} {s : State} {m : MethodId} {args : Array Value} {below : List Frame} {meth : Method} {c : Code} {dC : Nat → ClassId} {dI : Nat → Nat → Nat} {cy : Nat → ClassId} {o0 : Nat} {a0 : Nat → Nat} {N : Nat} {kh6 : Int32 → Int32 → Option (Int32)} {y : Int32} (C0 : zCx p s m args meth c cX11_loudOfSet 8 (some .int) RX11 (dC, dI) cy) (s0 : zSt) (v1 : Int32) (v2 : Int32) (v3 : Int32) (v4 : Int32) (v5 : Int32) (v6 : Int32) (v7 : Int32) (hk6 : ∀ (v6 : Int32) (v7 : Int32) (_ : kh6 v6 v7 = some y) (ls : Array Slot) (_ : lv_has ls 8 [(0, .ref o0), (1, .int v1), (2, .int v2), (3, .int v3), (4, .int v4), (5, .int v5), (6, .int v6), (7, .int v7)]), W p l e rm_Mo_loudOfSet s m args below meth c s.heap [] 0 0 (MQ below (zSi y) args s 0 0 (fun _ => False)) (F0 m 6 ls [])) (hP : va_P (dC, dI) vwCl (wd_Mo_loudOfSet cy o0 a0 (zI s0) (zL s0) (zA s0 16) (zA s0 17) (zA s0 19)) s.heap) (hf : Mo_loudOfSet_b6 N kh6 s0 v1 v2 v3 v4 v5 v6 v7 = some y) (ls : Array Slot) (hl : lv_has ls 8 [(0, .ref o0), (1, .int v1), (2, .int v2), (3, .int v3), (4, .int v4), (5, .int v5), (6, .int v6), (7, .int v7)]) : W p l e rm_Mo_loudOfSet s m args below meth c s.heap [] 0 0 (MQ below (zSi y) args s 0 0 (fun _ => False)) (F0 m 6 ls []) := by
  obtain ⟨hx, hb, hr, hml, hown, hT, hk, hK⟩ := id C0
  refine lv_iload hx hb dX11_loudOfSet_6 (lv_at hl 7 rfl) ?_
  refine lv_aload_n hx hb dX11_loudOfSet_8 rfl (lv_at hl 0 rfl) ?_
  refine zget (v := .int (zI s0 29)) hx hb hown hT hK hP inX11 rfl smX11 0 rfl 29 (by decide) tb_1031 rfl dX11_loudOfSet_9 ?_
  refine lv_icmp_ge (tgt := 62) hx hb dX11_loudOfSet_12 (by decide) (fun hb_1 => ?_) (fun hb_1 => ?_)
  · have hf := zif_t hb_1 hf
    refine lv_iload hx hb dX11_loudOfSet_62 (lv_at hl 6 rfl) ?_
    cases hf
    exact zeri hx hb hr hk dX11_loudOfSet_64
  · have hf := zif_f hb_1 hf
    refine lv_iload hx hb dX11_loudOfSet_15 (lv_at hl 6 rfl) ?_
    refine lv_iload_n hx hb dX11_loudOfSet_17 rfl (lv_at hl 1 rfl) ?_
    refine lv_iload hx hb dX11_loudOfSet_18 (lv_at hl 7 rfl) ?_
    refine lv_ishr hx hb dX11_loudOfSet_20 ?_
    refine lv_iconst (v := 1) hx hb dX11_loudOfSet_21 (by decide) ?_
    refine lv_iand hx hb dX11_loudOfSet_22 ?_
    refine lv_iconst (v := 1) hx hb dX11_loudOfSet_23 (by decide) ?_
    refine lv_icmp_ne (tgt := 52) hx hb dX11_loudOfSet_24 (by decide) (fun hb_2 => ?_) (fun hb_2 => ?_)
    · have hf := zif_f hb_2 hf
      exact k_Mo_loudOfSet_b52 C0 s0 v1 v2 v3 v4 v5 v7 v6 hk6 hP hf _ (lv_sub hl [0, 1, 2, 3, 4, 5, 7] rfl)
    · have hf := zif_t hb_2 hf
      refine lv_aload_n hx hb dX11_loudOfSet_27 rfl (lv_at hl 0 rfl) ?_
      refine zget (v := .ref (a0 16)) hx hb hown hT hK hP inX11 rfl smX11 0 rfl 16 (by decide) tb_1018 rfl dX11_loudOfSet_28 ?_
      refine lv_iload hx hb dX11_loudOfSet_31 (lv_at hl 7 rfl) ?_
      obtain ⟨hi3, hf⟩ := zck_some hf
      refine va_iald hx hb hK.1 hP 1 0 rfl rfl hi3 dX11_loudOfSet_33 ?_
      refine lv_iload_n hx hb dX11_loudOfSet_34 rfl (lv_at hl 2 rfl) ?_
      refine lv_icmp_ne (tgt := 52) hx hb dX11_loudOfSet_35 (by decide) (fun hb_4 => ?_) (fun hb_4 => ?_)
      · have hf := zif_f hb_4 hf
        exact k_Mo_loudOfSet_b52 C0 s0 v1 v2 v3 v4 v5 v7 v6 hk6 hP hf _ (lv_sub hl [0, 1, 2, 3, 4, 5, 7] rfl)
      · have hf := zif_t hb_4 hf
        refine lv_aload_n hx hb dX11_loudOfSet_38 rfl (lv_at hl 0 rfl) ?_
        refine lv_iload hx hb dX11_loudOfSet_39 (lv_at hl 7 rfl) ?_
        refine lv_iload_n hx hb dX11_loudOfSet_41 rfl (lv_at hl 3 rfl) ?_
        refine lv_iload hx hb dX11_loudOfSet_42 (lv_at hl 4 rfl) ?_
        refine lv_iload hx hb dX11_loudOfSet_44 (lv_at hl 5 rfl) ?_
        obtain ⟨z5, hc6, hf⟩ := zbd_some hf
        refine zri (zV (As := [.int v7, .int v3, .int v4, .int v5]) hx hb hml hown hT hl.1 (c_Mo_loudAt o0 a0 s0 v7 v3 v4 v5 hc6) zY_Mo_loudAt tb_1344 (zpR hK hP [0, 2, 3] rfl 0 11 rfl rfl rfl) rm_ok_Mo_loudOfSet_Mo_loudAt rfl rfl (Nat.le_of_ble_eq_true rfl) dX11_loudOfSet_46 ⟨Nat.zero_le _, Nat.zero_le _⟩) ?_
        refine lv_goto (tgt := 53) hx hb dX11_loudOfSet_49 (by decide) ?_
        exact k_Mo_loudOfSet_b53 C0 s0 v1 v2 v3 v4 v5 v7 v6 z5 hk6 hP hf _ (lv_sub hl [0, 1, 2, 3, 4, 5, 7] rfl)
set_option maxHeartbeats 4000000 in
set_option maxRecDepth 100000 in
theorem k_Mo_loudOfSet_h6 {p : Program} {l : Launch} {e : Env} {s : State} {m : MethodId} {args : Array Value} {below : List Frame} {meth : Method} {c : Code} {dC : Nat → ClassId} {dI : Nat → Nat → Nat} {cy : Nat → ClassId} {o0 : Nat} {a0 : Nat → Nat} {N : Nat} {y : Int32} (C0 : zCx p s m args meth c cX11_loudOfSet 8 (some .int) RX11 (dC, dI) cy) (s0 : zSt) (v1 : Int32) (v2 : Int32) (v3 : Int32) (v4 : Int32) (v5 : Int32) (hP : va_P (dC, dI) vwCl (wd_Mo_loudOfSet cy o0 a0 (zI s0) (zL s0) (zA s0 16) (zA s0 17) (zA s0 19)) s.heap) : ∀ (n : Nat) (v6 : Int32) (v7 : Int32) (hf : Mo_loudOfSet_h6 N s0 v1 v2 v3 v4 v5 n v6 v7 = some y) (ls : Array Slot) (hl : lv_has ls 8 [(0, .ref o0), (1, .int v1), (2, .int v2), (3, .int v3), (4, .int v4), (5, .int v5), (6, .int v6), (7, .int v7)]), W p l e rm_Mo_loudOfSet s m args below meth c s.heap [] 0 0 (MQ below (zSi y) args s 0 0 (fun _ => False)) (F0 m 6 ls []) := by
  intro n
  induction n with
  | zero => intro v6 v7 hf; cases hf
  | succ n ih =>
    intro v6 v7 hf ls hl
    have hf : Mo_loudOfSet_b6 N (Mo_loudOfSet_h6 N s0 v1 v2 v3 v4 v5 n) s0 v1 v2 v3 v4 v5 v6 v7 = some y := hf
    exact k_Mo_loudOfSet_b6 C0 s0 v1 v2 v3 v4 v5 v6 v7 (fun v6 v7 hf ls hl => ih v6 v7 hf ls hl) hP hf ls hl
set_option maxHeartbeats 4000000 in
set_option maxRecDepth 100000 in
theorem k_Mo_loudOfSet_b0 {p : Program} {l : Launch} {e : Env} {s : State} {m : MethodId} {args : Array Value} {below : List Frame} {meth : Method} {c : Code} {dC : Nat → ClassId} {dI : Nat → Nat → Nat} {cy : Nat → ClassId} {o0 : Nat} {a0 : Nat → Nat} {N : Nat} {y : Int32} (C0 : zCx p s m args meth c cX11_loudOfSet 8 (some .int) RX11 (dC, dI) cy) (s0 : zSt) (v1 : Int32) (v2 : Int32) (v3 : Int32) (v4 : Int32) (v5 : Int32) (hP : va_P (dC, dI) vwCl (wd_Mo_loudOfSet cy o0 a0 (zI s0) (zL s0) (zA s0 16) (zA s0 17) (zA s0 19)) s.heap) (hf : Mo_loudOfSet_b0 N s0 v1 v2 v3 v4 v5 = some y) (ls : Array Slot) (hl : lv_has ls 8 [(0, .ref o0), (1, .int v1), (2, .int v2), (3, .int v3), (4, .int v4), (5, .int v5)]) : W p l e rm_Mo_loudOfSet s m args below meth c s.heap [] 0 0 (MQ below (zSi y) args s 0 0 (fun _ => False)) (F0 m 0 ls []) := by
  obtain ⟨hx, hb, hr, hml, hown, hT, hk, hK⟩ := id C0
  refine lv_iconst (v := 0) hx hb dX11_loudOfSet_0 (by decide) ?_
  refine lv_istore (lv' := [(6, .int 0), (0, .ref o0), (1, .int v1), (2, .int v2), (3, .int v3), (4, .int v4), (5, .int v5)]) hx hb dX11_loudOfSet_1 hl (by decide) rfl (fun ls hl => ?_)
  refine lv_iconst (v := 0) hx hb dX11_loudOfSet_3 (by decide) ?_
  refine lv_istore (lv' := [(7, .int 0), (6, .int 0), (0, .ref o0), (1, .int v1), (2, .int v2), (3, .int v3), (4, .int v4), (5, .int v5)]) hx hb dX11_loudOfSet_4 hl (by decide) rfl (fun ls hl => ?_)
  exact k_Mo_loudOfSet_h6 C0 s0 v1 v2 v3 v4 v5  hP N 0 0 hf _ (lv_sub hl [2, 3, 4, 5, 6, 7, 1, 0] rfl)
set_option maxHeartbeats 4000000 in
set_option maxRecDepth 100000 in
theorem c_Mo_loudOfSet {l : Launch} {dC : Nat → ClassId} {dI : Nat → Nat → Nat} {cy : Nat → ClassId} {N : Nat} (o0 : Nat) (a0 : Nat → Nat) (s0 : zSt) (v1 : Int32) (v2 : Int32) (v3 : Int32) (v4 : Int32) (v5 : Int32) {y : Int32} (hf : Mo_loudOfSet N s0 v1 v2 v3 v4 v5 = some y) : Met l yX11_loudOfSet (.code yX11_loudOfSet cX11_loudOfSet 8 (some .int) :: zt) rm_Mo_loudOfSet (va_Pc [.ref o0, .int v1, .int v2, .int v3, .int v4, .int v5] (zRd (dC, dI) cy (wd_Mo_loudOfSet cy o0 a0 (zI s0) (zL s0) (zA s0 16) (zA s0 17) (zA s0 19)))) (zSi y) 0 0 (fun _ => False) :=
  zentR (by decide +kernel) (Nat.le_of_ble_eq_true rfl) (fun p e s m below meth c C0 hP ls hl => k_Mo_loudOfSet_b0 C0 s0 v1 v2 v3 v4 v5 hP hf ls hl)
def wd_Mo_isSo (cy : Nat → ClassId) (o0 : Nat) (a0 : Nat → Nat) (g0 : Nat → Int32) (h0 : Nat → Int64) (x0_16 : Nat → Int32) (x0_17 : Nat → Int32) (x0_19 : Nat → Int32) (x0_41 : Nat → Int32) (x0_42 : Nat → Int32) (x0_43 : Nat → Int32) (x0_44 : Nat → Int32) : va_W := [(o0, .inr (11, fs_Mo a0 g0 h0)), (a0 16, .inl (cy 0, 11, .inl x0_16)), (a0 17, .inl (cy 0, 11, .inl x0_17)), (a0 19, .inl (cy 0, 4, .inl x0_19)), (a0 41, .inl (cy 0, 40, .inl x0_41)), (a0 42, .inl (cy 0, 40, .inl x0_42)), (a0 43, .inl (cy 0, 40, .inl x0_43)), (a0 44, .inl (cy 0, 40, .inl x0_44))]
def rm_Mo_isSo : Room := { frames := 3, cells := 0, slots := 0, locals := 93 }
theorem rm_ok_Mo_isSo_Mo_loudOfSet : rm_Mo_loudOfSet.cells = 0 ∧ rm_Mo_loudOfSet.slots = 0 ∧ rm_Mo_loudOfSet.frames + 1 ≤ rm_Mo_isSo.frames ∧ 8 + (8 + 11) + rm_Mo_loudOfSet.locals ≤ rm_Mo_isSo.locals := by decide
set_option maxHeartbeats 4000000 in
set_option maxRecDepth 100000 in
theorem k_Mo_isSo_b0 {p : Program} {l : Launch} {e : Env} {s : State} {m : MethodId} {args : Array Value} {below : List Frame} {meth : Method} {c : Code} {dC : Nat → ClassId} {dI : Nat → Nat → Nat} {cy : Nat → ClassId} {o0 : Nat} {a0 : Nat → Nat} {N : Nat} {y : Int32} (C0 : zCx p s m args meth c cX11_isSo 6 (some .boolean) RX11 (dC, dI) cy) (s0 : zSt) (v1 : Int32) (v2 : Int32) (v3 : Int32) (v4 : Int32) (hP : va_P (dC, dI) vwCl (wd_Mo_isSo cy o0 a0 (zI s0) (zL s0) (zA s0 16) (zA s0 17) (zA s0 19) (zA s0 41) (zA s0 42) (zA s0 43) (zA s0 44)) s.heap) (hf : Mo_isSo_b0 N s0 v1 v2 v3 v4 = some y) (ls : Array Slot) (hl : lv_has ls 6 [(0, .ref o0), (1, .int v1), (2, .int v2), (3, .int v3), (4, .int v4)]) : W p l e rm_Mo_isSo s m args below meth c s.heap [] 0 0 (MQ below (zSi y) args s 0 0 (fun _ => False)) (F0 m 0 ls []) := by
  obtain ⟨hx, hb, hr, hml, hown, hT, hk, hK⟩ := id C0
  refine lv_aload_n hx hb dX11_isSo_0 rfl (lv_at hl 0 rfl) ?_
  refine lv_iload_n hx hb dX11_isSo_1 rfl (lv_at hl 2 rfl) ?_
  refine lv_aload_n hx hb dX11_isSo_2 rfl (lv_at hl 0 rfl) ?_
  refine zget (v := .ref (a0 42)) hx hb hown hT hK hP inX11 rfl smX11 0 rfl 42 (by decide) tb_1044 rfl dX11_isSo_3 ?_
  refine lv_iload_n hx hb dX11_isSo_6 rfl (lv_at hl 1 rfl) ?_
  obtain ⟨hi1, hf⟩ := zck_some hf
  refine va_iald hx hb hK.1 hP 5 0 rfl rfl hi1 dX11_isSo_7 ?_
  refine lv_aload_n hx hb dX11_isSo_8 rfl (lv_at hl 0 rfl) ?_
  refine zget (v := .ref (a0 41)) hx hb hown hT hK hP inX11 rfl smX11 0 rfl 41 (by decide) tb_1043 rfl dX11_isSo_9 ?_
  refine lv_iload_n hx hb dX11_isSo_12 rfl (lv_at hl 1 rfl) ?_
  obtain ⟨hi2, hf⟩ := zck_some hf
  refine va_iald hx hb hK.1 hP 4 0 rfl rfl hi2 dX11_isSo_13 ?_
  refine lv_iload_n hx hb dX11_isSo_14 rfl (lv_at hl 3 rfl) ?_
  refine lv_iload hx hb dX11_isSo_15 (lv_at hl 4 rfl) ?_
  obtain ⟨z3, hc4, hf⟩ := zbd_some hf
  refine zri (zV (As := [.int v2, .int ((zA s0 42) (Int32.toNatClampNeg v1)), .int ((zA s0 41) (Int32.toNatClampNeg v1)), .int v3, .int v4]) hx hb hml hown hT hl.1 (c_Mo_loudOfSet o0 a0 s0 v2 ((zA s0 42) (Int32.toNatClampNeg v1)) ((zA s0 41) (Int32.toNatClampNeg v1)) v3 v4 hc4) zY_Mo_loudOfSet tb_1422 (zpR hK hP [0, 1, 2, 3] rfl 0 11 rfl rfl rfl) rm_ok_Mo_isSo_Mo_loudOfSet rfl rfl (Nat.le_of_ble_eq_true rfl) dX11_isSo_17 ⟨Nat.zero_le _, Nat.zero_le _⟩) ?_
  refine lv_istore (lv' := [(5, .int z3), (0, .ref o0), (1, .int v1), (2, .int v2), (3, .int v3), (4, .int v4)]) hx hb dX11_isSo_20 hl (by decide) rfl (fun ls hl => ?_)
  refine lv_iload hx hb dX11_isSo_22 (lv_at hl 0 rfl) ?_
  refine lv_aload_n hx hb dX11_isSo_24 rfl (lv_at hl 1 rfl) ?_
  refine zget (v := .ref (a0 43)) hx hb hown hT hK hP inX11 rfl smX11 0 rfl 43 (by decide) tb_1045 rfl dX11_isSo_25 ?_
  refine lv_iload_n hx hb dX11_isSo_28 rfl (lv_at hl 2 rfl) ?_
  obtain ⟨hi5, hf⟩ := zck_some hf
  refine va_iald hx hb hK.1 hP 6 0 rfl rfl hi5 dX11_isSo_29 ?_
  refine lv_icmp_lt (tgt := 48) hx hb dX11_isSo_30 (by decide) (fun hb_6 => ?_) (fun hb_6 => ?_)
  · have hf := zif_t hb_6 hf
    refine lv_iconst (v := 0) hx hb dX11_isSo_48 (by decide) ?_
    cases hf
    exact zerz hx hb hr hk (Or.inl rfl) dX11_isSo_49
  · have hf := zif_f hb_6 hf
    refine lv_iload hx hb dX11_isSo_33 (lv_at hl 0 rfl) ?_
    refine lv_aload_n hx hb dX11_isSo_35 rfl (lv_at hl 1 rfl) ?_
    refine zget (v := .ref (a0 44)) hx hb hown hT hK hP inX11 rfl smX11 0 rfl 44 (by decide) tb_1046 rfl dX11_isSo_36 ?_
    refine lv_iload_n hx hb dX11_isSo_39 rfl (lv_at hl 2 rfl) ?_
    obtain ⟨hi7, hf⟩ := zck_some hf
    refine va_iald hx hb hK.1 hP 7 0 rfl rfl hi7 dX11_isSo_40 ?_
    refine lv_icmp_gt (tgt := 48) hx hb dX11_isSo_41 (by decide) (fun hb_8 => ?_) (fun hb_8 => ?_)
    · have hf := zif_t hb_8 hf
      refine lv_iconst (v := 0) hx hb dX11_isSo_48 (by decide) ?_
      cases hf
      exact zerz hx hb hr hk (Or.inl rfl) dX11_isSo_49
    · have hf := zif_f hb_8 hf
      refine lv_iconst (v := 1) hx hb dX11_isSo_44 (by decide) ?_
      refine lv_goto (tgt := 49) hx hb dX11_isSo_45 (by decide) ?_
      cases hf
      exact zerz hx hb hr hk (Or.inr rfl) dX11_isSo_49
set_option maxHeartbeats 4000000 in
set_option maxRecDepth 100000 in
theorem c_Mo_isSo {l : Launch} {dC : Nat → ClassId} {dI : Nat → Nat → Nat} {cy : Nat → ClassId} {N : Nat} (o0 : Nat) (a0 : Nat → Nat) (s0 : zSt) (v1 : Int32) (v2 : Int32) (v3 : Int32) (v4 : Int32) {y : Int32} (hf : Mo_isSo N s0 v1 v2 v3 v4 = some y) : Met l yX11_isSo (.code yX11_isSo cX11_isSo 6 (some .boolean) :: zt) rm_Mo_isSo (va_Pc [.ref o0, .int v1, .int v2, .int v3, .int v4] (zRd (dC, dI) cy (wd_Mo_isSo cy o0 a0 (zI s0) (zL s0) (zA s0 16) (zA s0 17) (zA s0 19) (zA s0 41) (zA s0 42) (zA s0 43) (zA s0 44)))) (zSi y) 0 0 (fun _ => False) :=
  zentR (by decide +kernel) (Nat.le_of_ble_eq_true rfl) (fun p e s m below meth c C0 hP ls hl => k_Mo_isSo_b0 C0 s0 v1 v2 v3 v4 hP hf ls hl)
def wd_Mo_areSo (cy : Nat → ClassId) (o0 : Nat) (a0 : Nat → Nat) (g0 : Nat → Int32) (h0 : Nat → Int64) (x0_16 : Nat → Int32) (x0_17 : Nat → Int32) (x0_19 : Nat → Int32) (x0_39 : Nat → Int32) (x0_40 : Nat → Int32) (x0_41 : Nat → Int32) (x0_42 : Nat → Int32) (x0_43 : Nat → Int32) (x0_44 : Nat → Int32) (x0_45 : Nat → Int32) (x0_46 : Nat → Int32) : va_W := [(o0, .inr (11, fs_Mo a0 g0 h0)), (a0 16, .inl (cy 0, 11, .inl x0_16)), (a0 17, .inl (cy 0, 11, .inl x0_17)), (a0 19, .inl (cy 0, 4, .inl x0_19)), (a0 39, .inl (cy 0, 40, .inl x0_39)), (a0 40, .inl (cy 0, 40, .inl x0_40)), (a0 41, .inl (cy 0, 40, .inl x0_41)), (a0 42, .inl (cy 0, 40, .inl x0_42)), (a0 43, .inl (cy 0, 40, .inl x0_43)), (a0 44, .inl (cy 0, 40, .inl x0_44)), (a0 45, .inl (cy 0, 40, .inl x0_45)), (a0 46, .inl (cy 0, 40, .inl x0_46))]
def rm_Mo_areSo : Room := { frames := 4, cells := 0, slots := 0, locals := 118 }
theorem rm_ok_Mo_areSo_Mo_counts : rm_Mo_counts.cells = 0 ∧ rm_Mo_counts.slots = 0 ∧ rm_Mo_counts.frames + 1 ≤ rm_Mo_areSo.frames ∧ 8 + (4 + 11) + rm_Mo_counts.locals ≤ rm_Mo_areSo.locals := by decide
theorem rm_ok_Mo_areSo_Mo_isSo : rm_Mo_isSo.cells = 0 ∧ rm_Mo_isSo.slots = 0 ∧ rm_Mo_isSo.frames + 1 ≤ rm_Mo_areSo.frames ∧ 8 + (6 + 11) + rm_Mo_isSo.locals ≤ rm_Mo_areSo.locals := by decide
set_option maxHeartbeats 4000000 in
set_option maxRecDepth 100000 in
theorem k_Mo_areSo_b61 {p : Program} {l : Launch} {e : Env} {s : State} {m : MethodId} {args : Array Value} {below : List Frame} {meth : Method} {c : Code} {dC : Nat → ClassId} {dI : Nat → Nat → Nat} {cy : Nat → ClassId} {o0 : Nat} {a0 : Nat → Nat} {N : Nat} {kh6 : Int32 → Int32 → Option (Int32)} {y : Int32} (C0 : zCx p s m args meth c cX11_areSo 8 (some .boolean) RX11 (dC, dI) cy) (s0 : zSt) (v1 : Int32) (v2 : Int32) (v3 : Int32) (v4 : Int32) (v5 : Int32) (v7 : Int32) (t0 : Int32) (hk6 : ∀ (v6 : Int32) (v7 : Int32) (_ : kh6 v6 v7 = some y) (ls : Array Slot) (_ : lv_has ls 8 [(0, .ref o0), (1, .int v1), (2, .int v2), (3, .int v3), (4, .int v4), (5, .int v5), (6, .int v6), (7, .int v7)]), W p l e rm_Mo_areSo s m args below meth c s.heap [] 0 0 (MQ below (zSi y) args s 0 0 (fun _ => False)) (F0 m 6 ls [])) (hP : va_P (dC, dI) vwCl (wd_Mo_areSo cy o0 a0 (zI s0) (zL s0) (zA s0 16) (zA s0 17) (zA s0 19) (zA s0 39) (zA s0 40) (zA s0 41) (zA s0 42) (zA s0 43) (zA s0 44) (zA s0 45) (zA s0 46)) s.heap) (hf : Mo_areSo_b61 N kh6 s0 v1 v2 v3 v4 v5 v7 t0 = some y) (ls : Array Slot) (hl : lv_has ls 8 [(0, .ref o0), (1, .int v1), (2, .int v2), (3, .int v3), (4, .int v4), (5, .int v5), (7, .int v7)]) : W p l e rm_Mo_areSo s m args below meth c s.heap [] 0 0 (MQ below (zSi y) args s 0 0 (fun _ => False)) (F0 m 61 ls [.int t0]) := by
  obtain ⟨hx, hb, hr, hml, hown, hT, hk, hK⟩ := id C0
  refine lv_istore (lv' := [(6, .int t0), (0, .ref o0), (1, .int v1), (2, .int v2), (3, .int v3), (4, .int v4), (5, .int v5), (7, .int v7)]) hx hb dX11_areSo_61 hl (by decide) rfl (fun ls hl => ?_)
  refine lv_iinc (v := v7 + 1) (lv' := [(7, .int (v7 + 1)), (6, .int t0), (0, .ref o0), (1, .int v1), (2, .int v2), (3, .int v3), (4, .int v4), (5, .int v5)]) hx hb dX11_areSo_63 hl (k := 7) rfl rfl (by decide) rfl (fun ls hl => ?_)
  refine lv_goto (tgt := 6) hx hb dX11_areSo_66 (by decide) ?_
  exact hk6 t0 (v7 + 1) hf _ (lv_sub hl [2, 3, 4, 5, 6, 7, 1, 0] rfl)
set_option maxHeartbeats 4000000 in
set_option maxRecDepth 100000 in
theorem k_Mo_areSo_b56 {p : Program} {l : Launch} {e : Env} {s : State} {m : MethodId} {args : Array Value} {below : List Frame} {meth : Method} {c : Code} {dC : Nat → ClassId} {dI : Nat → Nat → Nat} {cy : Nat → ClassId} {o0 : Nat} {a0 : Nat → Nat} {N : Nat} {kh6 : Int32 → Int32 → Option (Int32)} {y : Int32} (C0 : zCx p s m args meth c cX11_areSo 8 (some .boolean) RX11 (dC, dI) cy) (s0 : zSt) (v1 : Int32) (v2 : Int32) (v3 : Int32) (v4 : Int32) (v5 : Int32) (v7 : Int32) (hk6 : ∀ (v6 : Int32) (v7 : Int32) (_ : kh6 v6 v7 = some y) (ls : Array Slot) (_ : lv_has ls 8 [(0, .ref o0), (1, .int v1), (2, .int v2), (3, .int v3), (4, .int v4), (5, .int v5), (6, .int v6), (7, .int v7)]), W p l e rm_Mo_areSo s m args below meth c s.heap [] 0 0 (MQ below (zSi y) args s 0 0 (fun _ => False)) (F0 m 6 ls [])) (hP : va_P (dC, dI) vwCl (wd_Mo_areSo cy o0 a0 (zI s0) (zL s0) (zA s0 16) (zA s0 17) (zA s0 19) (zA s0 39) (zA s0 40) (zA s0 41) (zA s0 42) (zA s0 43) (zA s0 44) (zA s0 45) (zA s0 46)) s.heap) (hf : Mo_areSo_b56 N kh6 s0 v1 v2 v3 v4 v5 v7 = some y) (ls : Array Slot) (hl : lv_has ls 8 [(0, .ref o0), (1, .int v1), (2, .int v2), (3, .int v3), (4, .int v4), (5, .int v5), (7, .int v7)]) : W p l e rm_Mo_areSo s m args below meth c s.heap [] 0 0 (MQ below (zSi y) args s 0 0 (fun _ => False)) (F0 m 56 ls []) := by
  obtain ⟨hx, hb, hr, hml, hown, hT, hk, hK⟩ := id C0
  refine lv_iconst (v := 1) hx hb dX11_areSo_56 (by decide) ?_
  refine lv_goto (tgt := 61) hx hb dX11_areSo_57 (by decide) ?_
  exact k_Mo_areSo_b61 C0 s0 v1 v2 v3 v4 v5 v7 1 hk6 hP hf _ (lv_sub hl [0, 1, 2, 3, 4, 5, 6] rfl)
set_option maxHeartbeats 4000000 in
set_option maxRecDepth 100000 in
theorem k_Mo_areSo_b6 {p : Program} {l : Launch} {e : Env} {s : State} {m : MethodId} {args : Array Value} {below : List Frame} {meth : Method} {c : Code} {dC : Nat → ClassId} {dI : Nat → Nat → Nat} {cy : Nat → ClassId} {o0 : Nat} {a0 : Nat → Nat} {N : Nat} {kh6 : Int32 → Int32 → Option (Int32)} {y : Int32} (C0 : zCx p s m args meth c cX11_areSo 8 (some .boolean) RX11 (dC, dI) cy) (s0 : zSt) (v1 : Int32) (v2 : Int32) (v3 : Int32) (v4 : Int32) (v5 : Int32) (v6 : Int32) (v7 : Int32) (hk6 : ∀ (v6 : Int32) (v7 : Int32) (_ : kh6 v6 v7 = some y) (ls : Array Slot) (_ : lv_has ls 8 [(0, .ref o0), (1, .int v1), (2, .int v2), (3, .int v3), (4, .int v4), (5, .int v5), (6, .int v6), (7, .int v7)]), W p l e rm_Mo_areSo s m args below meth c s.heap [] 0 0 (MQ below (zSi y) args s 0 0 (fun _ => False)) (F0 m 6 ls [])) (hP : va_P (dC, dI) vwCl (wd_Mo_areSo cy o0 a0 (zI s0) (zL s0) (zA s0 16) (zA s0 17) (zA s0 19) (zA s0 39) (zA s0 40) (zA s0 41) (zA s0 42) (zA s0 43) (zA s0 44) (zA s0 45) (zA s0 46)) s.heap) (hf : Mo_areSo_b6 N kh6 s0 v1 v2 v3 v4 v5 v6 v7 = some y) (ls : Array Slot) (hl : lv_has ls 8 [(0, .ref o0), (1, .int v1), (2, .int v2), (3, .int v3), (4, .int v4), (5, .int v5), (6, .int v6), (7, .int v7)]) : W p l e rm_Mo_areSo s m args below meth c s.heap [] 0 0 (MQ below (zSi y) args s 0 0 (fun _ => False)) (F0 m 6 ls []) := by
  obtain ⟨hx, hb, hr, hml, hown, hT, hk, hK⟩ := id C0
  refine lv_iload hx hb dX11_areSo_6 (lv_at hl 7 rfl) ?_
  refine lv_aload_n hx hb dX11_areSo_8 rfl (lv_at hl 0 rfl) ?_
  refine zget (v := .int (zI s0 47)) hx hb hown hT hK hP inX11 rfl smX11 0 rfl 47 (by decide) tb_1049 rfl dX11_areSo_9 ?_
  refine lv_icmp_ge (tgt := 69) hx hb dX11_areSo_12 (by decide) (fun hb_1 => ?_) (fun hb_1 => ?_)
  · have hf := zif_t hb_1 hf
    refine lv_iload hx hb dX11_areSo_69 (lv_at hl 6 rfl) ?_
    obtain ⟨hq2, hf⟩ := zcb_some hf
    cases hf
    exact zerz hx hb hr hk hq2 dX11_areSo_71
  · have hf := zif_f hb_1 hf
    refine lv_iload hx hb dX11_areSo_15 (lv_at hl 6 rfl) ?_
    refine lv_if_eq (tgt := 69) hx hb dX11_areSo_17 (by decide) (fun hb_3 => ?_) (fun hb_3 => ?_)
    · have hf := zif_t hb_3 hf
      refine lv_iload hx hb dX11_areSo_69 (lv_at hl 6 rfl) ?_
      obtain ⟨hq4, hf⟩ := zcb_some hf
      cases hf
      exact zerz hx hb hr hk hq4 dX11_areSo_71
    · have hf := zif_f hb_3 hf
      refine lv_aload_n hx hb dX11_areSo_20 rfl (lv_at hl 0 rfl) ?_
      refine lv_iload hx hb dX11_areSo_21 (lv_at hl 7 rfl) ?_
      refine lv_iconst (v := 0) hx hb dX11_areSo_23 (by decide) ?_
      refine lv_iload hx hb dX11_areSo_24 (lv_at hl 5 rfl) ?_
      obtain ⟨z5, hc6, hf⟩ := zbd_some hf
      refine zri (zV (As := [.int v7, .int 0, .int v5]) hx hb hml hown hT hl.1 (c_Mo_counts o0 a0 s0 v7 0 v5 hc6) zY_Mo_counts tb_1414 (zpR hK hP [0, 4, 10, 11] rfl 0 11 rfl rfl rfl) rm_ok_Mo_areSo_Mo_counts rfl rfl (Nat.le_of_ble_eq_true rfl) dX11_areSo_26 ⟨Nat.zero_le _, Nat.zero_le _⟩) ?_
      refine lv_if_eq (tgt := 56) hx hb dX11_areSo_29 (by decide) (fun hb_7 => ?_) (fun hb_7 => ?_)
      · have hf := zif_t hb_7 hf
        exact k_Mo_areSo_b56 C0 s0 v1 v2 v3 v4 v5 v7 hk6 hP hf _ (lv_sub hl [0, 1, 2, 3, 4, 5, 7] rfl)
      · have hf := zif_f hb_7 hf
        refine lv_aload_n hx hb dX11_areSo_32 rfl (lv_at hl 0 rfl) ?_
        refine zget (v := .ref (a0 40)) hx hb hown hT hK hP inX11 rfl smX11 0 rfl 40 (by decide) tb_1042 rfl dX11_areSo_33 ?_
        refine lv_iload hx hb dX11_areSo_36 (lv_at hl 7 rfl) ?_
        obtain ⟨hi8, hf⟩ := zck_some hf
        refine va_iald hx hb hK.1 hP 5 0 rfl rfl hi8 dX11_areSo_38 ?_
        refine lv_iload_n hx hb dX11_areSo_39 rfl (lv_at hl 3 rfl) ?_
        refine lv_icmp_ne (tgt := 56) hx hb dX11_areSo_40 (by decide) (fun hb_9 => ?_) (fun hb_9 => ?_)
        · have hf := zif_f hb_9 hf
          exact k_Mo_areSo_b56 C0 s0 v1 v2 v3 v4 v5 v7 hk6 hP hf _ (lv_sub hl [0, 1, 2, 3, 4, 5, 7] rfl)
        · have hf := zif_t hb_9 hf
          refine lv_aload_n hx hb dX11_areSo_43 rfl (lv_at hl 0 rfl) ?_
          refine lv_iload hx hb dX11_areSo_44 (lv_at hl 7 rfl) ?_
          refine lv_iload_n hx hb dX11_areSo_46 rfl (lv_at hl 1 rfl) ?_
          refine lv_iload_n hx hb dX11_areSo_47 rfl (lv_at hl 2 rfl) ?_
          refine lv_iload hx hb dX11_areSo_48 (lv_at hl 4 rfl) ?_
          obtain ⟨z10, hc11, hf⟩ := zbd_some hf
          refine zri (zV (As := [.int v7, .int v1, .int v2, .int v4]) hx hb hml hown hT hl.1 (c_Mo_isSo o0 a0 s0 v7 v1 v2 v4 hc11) zY_Mo_isSo tb_1418 (zpR hK hP [0, 1, 2, 3, 6, 7, 8, 9] rfl 0 11 rfl rfl rfl) rm_ok_Mo_areSo_Mo_isSo rfl rfl (Nat.le_of_ble_eq_true rfl) dX11_areSo_50 ⟨Nat.zero_le _, Nat.zero_le _⟩) ?_
          refine lv_if_eq (tgt := 60) hx hb dX11_areSo_53 (by decide) (fun hb_12 => ?_) (fun hb_12 => ?_)
          · have hf := zif_t hb_12 hf
            refine lv_iconst (v := 0) hx hb dX11_areSo_60 (by decide) ?_
            exact k_Mo_areSo_b61 C0 s0 v1 v2 v3 v4 v5 v7 0 hk6 hP hf _ (lv_sub hl [0, 1, 2, 3, 4, 5, 7] rfl)
          · have hf := zif_f hb_12 hf
            exact k_Mo_areSo_b56 C0 s0 v1 v2 v3 v4 v5 v7 hk6 hP hf _ (lv_sub hl [0, 1, 2, 3, 4, 5, 7] rfl)
set_option maxHeartbeats 4000000 in
set_option maxRecDepth 100000 in
theorem k_Mo_areSo_h6 {p : Program} {l : Launch} {e : Env} {s : State} {m : MethodId} {args : Array Value} {below : List Frame} {meth : Method} {c : Code} {dC : Nat → ClassId} {dI : Nat → Nat → Nat} {cy : Nat → ClassId} {o0 : Nat} {a0 : Nat → Nat} {N : Nat} {y : Int32} (C0 : zCx p s m args meth c cX11_areSo 8 (some .boolean) RX11 (dC, dI) cy) (s0 : zSt) (v1 : Int32) (v2 : Int32) (v3 : Int32) (v4 : Int32) (v5 : Int32) (hP : va_P (dC, dI) vwCl (wd_Mo_areSo cy o0 a0 (zI s0) (zL s0) (zA s0 16) (zA s0 17) (zA s0 19) (zA s0 39) (zA s0 40) (zA s0 41) (zA s0 42) (zA s0 43) (zA s0 44) (zA s0 45) (zA s0 46)) s.heap) : ∀ (n : Nat) (v6 : Int32) (v7 : Int32) (hf : Mo_areSo_h6 N s0 v1 v2 v3 v4 v5 n v6 v7 = some y) (ls : Array Slot) (hl : lv_has ls 8 [(0, .ref o0), (1, .int v1), (2, .int v2), (3, .int v3), (4, .int v4), (5, .int v5), (6, .int v6), (7, .int v7)]), W p l e rm_Mo_areSo s m args below meth c s.heap [] 0 0 (MQ below (zSi y) args s 0 0 (fun _ => False)) (F0 m 6 ls []) := by
  intro n
  induction n with
  | zero => intro v6 v7 hf; cases hf
  | succ n ih =>
    intro v6 v7 hf ls hl
    have hf : Mo_areSo_b6 N (Mo_areSo_h6 N s0 v1 v2 v3 v4 v5 n) s0 v1 v2 v3 v4 v5 v6 v7 = some y := hf
    exact k_Mo_areSo_b6 C0 s0 v1 v2 v3 v4 v5 v6 v7 (fun v6 v7 hf ls hl => ih v6 v7 hf ls hl) hP hf ls hl
set_option maxHeartbeats 4000000 in
set_option maxRecDepth 100000 in
theorem k_Mo_areSo_b0 {p : Program} {l : Launch} {e : Env} {s : State} {m : MethodId} {args : Array Value} {below : List Frame} {meth : Method} {c : Code} {dC : Nat → ClassId} {dI : Nat → Nat → Nat} {cy : Nat → ClassId} {o0 : Nat} {a0 : Nat → Nat} {N : Nat} {y : Int32} (C0 : zCx p s m args meth c cX11_areSo 8 (some .boolean) RX11 (dC, dI) cy) (s0 : zSt) (v1 : Int32) (v2 : Int32) (v3 : Int32) (v4 : Int32) (v5 : Int32) (hP : va_P (dC, dI) vwCl (wd_Mo_areSo cy o0 a0 (zI s0) (zL s0) (zA s0 16) (zA s0 17) (zA s0 19) (zA s0 39) (zA s0 40) (zA s0 41) (zA s0 42) (zA s0 43) (zA s0 44) (zA s0 45) (zA s0 46)) s.heap) (hf : Mo_areSo_b0 N s0 v1 v2 v3 v4 v5 = some y) (ls : Array Slot) (hl : lv_has ls 8 [(0, .ref o0), (1, .int v1), (2, .int v2), (3, .int v3), (4, .int v4), (5, .int v5)]) : W p l e rm_Mo_areSo s m args below meth c s.heap [] 0 0 (MQ below (zSi y) args s 0 0 (fun _ => False)) (F0 m 0 ls []) := by
  obtain ⟨hx, hb, hr, hml, hown, hT, hk, hK⟩ := id C0
  refine lv_iconst (v := 1) hx hb dX11_areSo_0 (by decide) ?_
  refine lv_istore (lv' := [(6, .int 1), (0, .ref o0), (1, .int v1), (2, .int v2), (3, .int v3), (4, .int v4), (5, .int v5)]) hx hb dX11_areSo_1 hl (by decide) rfl (fun ls hl => ?_)
  refine lv_iconst (v := 0) hx hb dX11_areSo_3 (by decide) ?_
  refine lv_istore (lv' := [(7, .int 0), (6, .int 1), (0, .ref o0), (1, .int v1), (2, .int v2), (3, .int v3), (4, .int v4), (5, .int v5)]) hx hb dX11_areSo_4 hl (by decide) rfl (fun ls hl => ?_)
  exact k_Mo_areSo_h6 C0 s0 v1 v2 v3 v4 v5  hP N 1 0 hf _ (lv_sub hl [2, 3, 4, 5, 6, 7, 1, 0] rfl)
set_option maxHeartbeats 4000000 in
set_option maxRecDepth 100000 in
theorem c_Mo_areSo {l : Launch} {dC : Nat → ClassId} {dI : Nat → Nat → Nat} {cy : Nat → ClassId} {N : Nat} (o0 : Nat) (a0 : Nat → Nat) (s0 : zSt) (v1 : Int32) (v2 : Int32) (v3 : Int32) (v4 : Int32) (v5 : Int32) {y : Int32} (hf : Mo_areSo N s0 v1 v2 v3 v4 v5 = some y) : Met l yX11_areSo (.code yX11_areSo cX11_areSo 8 (some .boolean) :: zt) rm_Mo_areSo (va_Pc [.ref o0, .int v1, .int v2, .int v3, .int v4, .int v5] (zRd (dC, dI) cy (wd_Mo_areSo cy o0 a0 (zI s0) (zL s0) (zA s0 16) (zA s0 17) (zA s0 19) (zA s0 39) (zA s0 40) (zA s0 41) (zA s0 42) (zA s0 43) (zA s0 44) (zA s0 45) (zA s0 46)))) (zSi y) 0 0 (fun _ => False) :=
  zentR (by decide +kernel) (Nat.le_of_ble_eq_true rfl) (fun p e s m below meth c C0 hP ls hl => k_Mo_areSo_b0 C0 s0 v1 v2 v3 v4 v5 hP hf ls hl)
def wd_Mo_sets (cy : Nat → ClassId) (o0 : Nat) (a0 : Nat → Nat) (g0 : Nat → Int32) (h0 : Nat → Int64) (x0_16 : Nat → Int32) (x0_17 : Nat → Int32) (x0_19 : Nat → Int32) (x0_39 : Nat → Int32) (x0_40 : Nat → Int32) (x0_41 : Nat → Int32) (x0_42 : Nat → Int32) (x0_43 : Nat → Int32) (x0_44 : Nat → Int32) (x0_45 : Nat → Int32) (x0_46 : Nat → Int32) (x0_49 : Nat → Int32) : va_W := [(o0, .inr (11, fs_Mo a0 g0 h0)), (a0 16, .inl (cy 0, 11, .inl x0_16)), (a0 17, .inl (cy 0, 11, .inl x0_17)), (a0 19, .inl (cy 0, 4, .inl x0_19)), (a0 39, .inl (cy 0, 40, .inl x0_39)), (a0 40, .inl (cy 0, 40, .inl x0_40)), (a0 41, .inl (cy 0, 40, .inl x0_41)), (a0 42, .inl (cy 0, 40, .inl x0_42)), (a0 43, .inl (cy 0, 40, .inl x0_43)), (a0 44, .inl (cy 0, 40, .inl x0_44)), (a0 45, .inl (cy 0, 40, .inl x0_45)), (a0 46, .inl (cy 0, 40, .inl x0_46)), (a0 49, .inl (cy 3, 100, .inl x0_49))]
def rm_Mo_sets : Room := { frames := 5, cells := 0, slots := 0, locals := 145 }
theorem rm_ok_Mo_sets_Mo_areSo : rm_Mo_areSo.cells = 0 ∧ rm_Mo_areSo.slots = 0 ∧ rm_Mo_areSo.frames + 1 ≤ rm_Mo_sets.frames ∧ 8 + (8 + 11) + rm_Mo_areSo.locals ≤ rm_Mo_sets.locals := by decide
theorem rm_ok_Mo_sets_Mo_isIn : rm_Mo_isIn.cells = 0 ∧ rm_Mo_isIn.slots = 0 ∧ rm_Mo_isIn.frames + 1 ≤ rm_Mo_sets.frames ∧ 8 + (3 + 11) + rm_Mo_isIn.locals ≤ rm_Mo_sets.locals := by decide
theorem rm_ok_Mo_sets_Mo_isQuarter : rm_Mo_isQuarter.cells = 0 ∧ rm_Mo_isQuarter.slots = 0 ∧ rm_Mo_isQuarter.frames + 1 ≤ rm_Mo_sets.frames ∧ 8 + (1 + 11) + rm_Mo_isQuarter.locals ≤ rm_Mo_sets.locals := by decide
theorem rm_ok_Mo_sets_Mo_isWind : rm_Mo_isWind.cells = 0 ∧ rm_Mo_isWind.slots = 0 ∧ rm_Mo_isWind.frames + 1 ≤ rm_Mo_sets.frames ∧ 8 + (1 + 11) + rm_Mo_isWind.locals ≤ rm_Mo_sets.locals := by decide
set_option maxHeartbeats 4000000 in
set_option maxRecDepth 100000 in
theorem k_Mo_sets_b212 {p : Program} {l : Launch} {e : Env} {s : State} {m : MethodId} {args : Array Value} {below : List Frame} {meth : Method} {c : Code} {dC : Nat → ClassId} {dI : Nat → Nat → Nat} {cy : Nat → ClassId} {A : Nat → Prop} {o0 : Nat} {a0 : Nat → Nat} {N : Nat} {kh171 : zSt → Int32 → Int32 → Int32 → Int32 → Option (Int32 × zSt)} {y : Int32 × zSt} (C0 : zCx p s m args meth c cX11_sets 12 (some .int) RX11 (dC, dI) cy) (s0 : zSt) (v3 : Int32) (v5 : Int32) (v6 : Int32) (v7 : Int32) (v8 : Int32) (v9 : Int32) (v10 : Int32) (v11 : Int32) (hk171 : ∀ (s0 : zSt) (v8 : Int32) (v9 : Int32) (v10 : Int32) (v11 : Int32) {H : Heap} {locs : List Loc} (_ : va_P (dC, dI) vwCl (wd_Mo_sets cy o0 a0 (zI s0) (zL s0) (zA s0 16) (zA s0 17) (zA s0 19) (zA s0 39) (zA s0 40) (zA s0 41) (zA s0 42) (zA s0 43) (zA s0 44) (zA s0 45) (zA s0 46) (zA s0 49)) H) (_ : va_D A (wd_Mo_sets cy o0 a0 (zI s0) (zL s0) (zA s0 16) (zA s0 17) (zA s0 19) (zA s0 39) (zA s0 40) (zA s0 41) (zA s0 42) (zA s0 43) (zA s0 44) (zA s0 45) (zA s0 46) (zA s0 49))) (_ : va_S A s.heap H locs) (_ : kh171 s0 v8 v9 v10 v11 = some y) (ls : Array Slot) (_ : lv_has ls 12 [(0, .ref o0), (3, .int v3), (5, .int v5), (6, .int v6), (7, .int v7), (8, .int v8), (9, .int v9), (10, .int v10), (11, .int v11)]), W p l e rm_Mo_sets s m args below meth c H locs 0 0 (MQ below (zQi y.1 (dC, dI) cy (wd_Mo_sets cy o0 a0 (zI y.2) (zL y.2) (zA y.2 16) (zA y.2 17) (zA y.2 19) (zA y.2 39) (zA y.2 40) (zA y.2 41) (zA y.2 42) (zA y.2 43) (zA y.2 44) (zA y.2 45) (zA y.2 46) (zA y.2 49)) A) args s 0 0 A) (F0 m 171 ls [])) (hA : ∀ q, s.heap.size ≤ q → A q) {H : Heap} {locs : List Loc} (hP : va_P (dC, dI) vwCl (wd_Mo_sets cy o0 a0 (zI s0) (zL s0) (zA s0 16) (zA s0 17) (zA s0 19) (zA s0 39) (zA s0 40) (zA s0 41) (zA s0 42) (zA s0 43) (zA s0 44) (zA s0 45) (zA s0 46) (zA s0 49)) H) (hD : va_D A (wd_Mo_sets cy o0 a0 (zI s0) (zL s0) (zA s0 16) (zA s0 17) (zA s0 19) (zA s0 39) (zA s0 40) (zA s0 41) (zA s0 42) (zA s0 43) (zA s0 44) (zA s0 45) (zA s0 46) (zA s0 49))) (hS : va_S A s.heap H locs) (hf : Mo_sets_b212 N kh171 s0 v3 v5 v6 v7 v8 v9 v10 v11 = some y) (ls : Array Slot) (hl : lv_has ls 12 [(0, .ref o0), (3, .int v3), (5, .int v5), (6, .int v6), (7, .int v7), (8, .int v8), (9, .int v9), (10, .int v10), (11, .int v11)]) : W p l e rm_Mo_sets s m args below meth c H locs 0 0 (MQ below (zQi y.1 (dC, dI) cy (wd_Mo_sets cy o0 a0 (zI y.2) (zL y.2) (zA y.2 16) (zA y.2 17) (zA y.2 19) (zA y.2 39) (zA y.2 40) (zA y.2 41) (zA y.2 42) (zA y.2 43) (zA y.2 44) (zA y.2 45) (zA y.2 46) (zA y.2 49)) A) args s 0 0 A) (F0 m 212 ls []) := by
  obtain ⟨hx, hb, hr, hml, hown, hT, hk, hK⟩ := id C0
  refine lv_iinc (v := v11 + 1) (lv' := [(11, .int (v11 + 1)), (0, .ref o0), (3, .int v3), (5, .int v5), (6, .int v6), (7, .int v7), (8, .int v8), (9, .int v9), (10, .int v10)]) hx hb dX11_sets_212 hl (k := 8) rfl rfl (by decide) rfl (fun ls hl => ?_)
  refine lv_goto (tgt := 171) hx hb dX11_sets_215 (by decide) ?_
  exact hk171 s0 v8 v9 v10 (v11 + 1) hP hD hS hf _ (lv_sub hl [1, 2, 3, 4, 5, 6, 7, 8, 0] rfl)
set_option maxHeartbeats 4000000 in
set_option maxRecDepth 100000 in
theorem k_Mo_sets_b206 {p : Program} {l : Launch} {e : Env} {s : State} {m : MethodId} {args : Array Value} {below : List Frame} {meth : Method} {c : Code} {dC : Nat → ClassId} {dI : Nat → Nat → Nat} {cy : Nat → ClassId} {A : Nat → Prop} {o0 : Nat} {a0 : Nat → Nat} {N : Nat} {kh171 : zSt → Int32 → Int32 → Int32 → Int32 → Option (Int32 × zSt)} {y : Int32 × zSt} (C0 : zCx p s m args meth c cX11_sets 12 (some .int) RX11 (dC, dI) cy) (s0 : zSt) (v3 : Int32) (v5 : Int32) (v6 : Int32) (v7 : Int32) (v8 : Int32) (v11 : Int32) (t0 : Int32) (hk171 : ∀ (s0 : zSt) (v8 : Int32) (v9 : Int32) (v10 : Int32) (v11 : Int32) {H : Heap} {locs : List Loc} (_ : va_P (dC, dI) vwCl (wd_Mo_sets cy o0 a0 (zI s0) (zL s0) (zA s0 16) (zA s0 17) (zA s0 19) (zA s0 39) (zA s0 40) (zA s0 41) (zA s0 42) (zA s0 43) (zA s0 44) (zA s0 45) (zA s0 46) (zA s0 49)) H) (_ : va_D A (wd_Mo_sets cy o0 a0 (zI s0) (zL s0) (zA s0 16) (zA s0 17) (zA s0 19) (zA s0 39) (zA s0 40) (zA s0 41) (zA s0 42) (zA s0 43) (zA s0 44) (zA s0 45) (zA s0 46) (zA s0 49))) (_ : va_S A s.heap H locs) (_ : kh171 s0 v8 v9 v10 v11 = some y) (ls : Array Slot) (_ : lv_has ls 12 [(0, .ref o0), (3, .int v3), (5, .int v5), (6, .int v6), (7, .int v7), (8, .int v8), (9, .int v9), (10, .int v10), (11, .int v11)]), W p l e rm_Mo_sets s m args below meth c H locs 0 0 (MQ below (zQi y.1 (dC, dI) cy (wd_Mo_sets cy o0 a0 (zI y.2) (zL y.2) (zA y.2 16) (zA y.2 17) (zA y.2 19) (zA y.2 39) (zA y.2 40) (zA y.2 41) (zA y.2 42) (zA y.2 43) (zA y.2 44) (zA y.2 45) (zA y.2 46) (zA y.2 49)) A) args s 0 0 A) (F0 m 171 ls [])) (hA : ∀ q, s.heap.size ≤ q → A q) {H : Heap} {locs : List Loc} (hP : va_P (dC, dI) vwCl (wd_Mo_sets cy o0 a0 (zI s0) (zL s0) (zA s0 16) (zA s0 17) (zA s0 19) (zA s0 39) (zA s0 40) (zA s0 41) (zA s0 42) (zA s0 43) (zA s0 44) (zA s0 45) (zA s0 46) (zA s0 49)) H) (hD : va_D A (wd_Mo_sets cy o0 a0 (zI s0) (zL s0) (zA s0 16) (zA s0 17) (zA s0 19) (zA s0 39) (zA s0 40) (zA s0 41) (zA s0 42) (zA s0 43) (zA s0 44) (zA s0 45) (zA s0 46) (zA s0 49))) (hS : va_S A s.heap H locs) (hf : Mo_sets_b206 N kh171 s0 v3 v5 v6 v7 v8 v11 t0 = some y) (ls : Array Slot) (hl : lv_has ls 12 [(0, .ref o0), (3, .int v3), (5, .int v5), (6, .int v6), (7, .int v7), (8, .int v8), (11, .int v11)]) : W p l e rm_Mo_sets s m args below meth c H locs 0 0 (MQ below (zQi y.1 (dC, dI) cy (wd_Mo_sets cy o0 a0 (zI y.2) (zL y.2) (zA y.2 16) (zA y.2 17) (zA y.2 19) (zA y.2 39) (zA y.2 40) (zA y.2 41) (zA y.2 42) (zA y.2 43) (zA y.2 44) (zA y.2 45) (zA y.2 46) (zA y.2 49)) A) args s 0 0 A) (F0 m 206 ls [.int t0]) := by
  obtain ⟨hx, hb, hr, hml, hown, hT, hk, hK⟩ := id C0
  refine lv_istore (lv' := [(9, .int t0), (0, .ref o0), (3, .int v3), (5, .int v5), (6, .int v6), (7, .int v7), (8, .int v8), (11, .int v11)]) hx hb dX11_sets_206 hl (by decide) rfl (fun ls hl => ?_)
  refine lv_iload hx hb dX11_sets_208 (lv_at hl 7 rfl) ?_
  refine lv_istore (lv' := [(10, .int v11), (9, .int t0), (0, .ref o0), (3, .int v3), (5, .int v5), (6, .int v6), (7, .int v7), (8, .int v8), (11, .int v11)]) hx hb dX11_sets_210 hl (by decide) rfl (fun ls hl => ?_)
  exact k_Mo_sets_b212 C0 s0 v3 v5 v6 v7 v8 t0 v11 v11 hk171 hA hP hD hS hf _ (lv_sub hl [2, 3, 4, 5, 6, 7, 1, 0, 8] rfl)
set_option maxHeartbeats 4000000 in
set_option maxRecDepth 100000 in
theorem k_Mo_sets_b171 {p : Program} {l : Launch} {e : Env} {s : State} {m : MethodId} {args : Array Value} {below : List Frame} {meth : Method} {c : Code} {dC : Nat → ClassId} {dI : Nat → Nat → Nat} {cy : Nat → ClassId} {A : Nat → Prop} {o0 : Nat} {a0 : Nat → Nat} {N : Nat} {kh171 : zSt → Int32 → Int32 → Int32 → Int32 → Option (Int32 × zSt)} {y : Int32 × zSt} (C0 : zCx p s m args meth c cX11_sets 12 (some .int) RX11 (dC, dI) cy) (s0 : zSt) (v3 : Int32) (v5 : Int32) (v6 : Int32) (v7 : Int32) (v8 : Int32) (v9 : Int32) (v10 : Int32) (v11 : Int32) (hk171 : ∀ (s0 : zSt) (v8 : Int32) (v9 : Int32) (v10 : Int32) (v11 : Int32) {H : Heap} {locs : List Loc} (_ : va_P (dC, dI) vwCl (wd_Mo_sets cy o0 a0 (zI s0) (zL s0) (zA s0 16) (zA s0 17) (zA s0 19) (zA s0 39) (zA s0 40) (zA s0 41) (zA s0 42) (zA s0 43) (zA s0 44) (zA s0 45) (zA s0 46) (zA s0 49)) H) (_ : va_D A (wd_Mo_sets cy o0 a0 (zI s0) (zL s0) (zA s0 16) (zA s0 17) (zA s0 19) (zA s0 39) (zA s0 40) (zA s0 41) (zA s0 42) (zA s0 43) (zA s0 44) (zA s0 45) (zA s0 46) (zA s0 49))) (_ : va_S A s.heap H locs) (_ : kh171 s0 v8 v9 v10 v11 = some y) (ls : Array Slot) (_ : lv_has ls 12 [(0, .ref o0), (3, .int v3), (5, .int v5), (6, .int v6), (7, .int v7), (8, .int v8), (9, .int v9), (10, .int v10), (11, .int v11)]), W p l e rm_Mo_sets s m args below meth c H locs 0 0 (MQ below (zQi y.1 (dC, dI) cy (wd_Mo_sets cy o0 a0 (zI y.2) (zL y.2) (zA y.2 16) (zA y.2 17) (zA y.2 19) (zA y.2 39) (zA y.2 40) (zA y.2 41) (zA y.2 42) (zA y.2 43) (zA y.2 44) (zA y.2 45) (zA y.2 46) (zA y.2 49)) A) args s 0 0 A) (F0 m 171 ls [])) (hA : ∀ q, s.heap.size ≤ q → A q) {H : Heap} {locs : List Loc} (hP : va_P (dC, dI) vwCl (wd_Mo_sets cy o0 a0 (zI s0) (zL s0) (zA s0 16) (zA s0 17) (zA s0 19) (zA s0 39) (zA s0 40) (zA s0 41) (zA s0 42) (zA s0 43) (zA s0 44) (zA s0 45) (zA s0 46) (zA s0 49)) H) (hD : va_D A (wd_Mo_sets cy o0 a0 (zI s0) (zL s0) (zA s0 16) (zA s0 17) (zA s0 19) (zA s0 39) (zA s0 40) (zA s0 41) (zA s0 42) (zA s0 43) (zA s0 44) (zA s0 45) (zA s0 46) (zA s0 49))) (hS : va_S A s.heap H locs) (hf : Mo_sets_b171 N kh171 s0 v3 v5 v6 v7 v8 v9 v10 v11 = some y) (ls : Array Slot) (hl : lv_has ls 12 [(0, .ref o0), (3, .int v3), (5, .int v5), (6, .int v6), (7, .int v7), (8, .int v8), (9, .int v9), (10, .int v10), (11, .int v11)]) : W p l e rm_Mo_sets s m args below meth c H locs 0 0 (MQ below (zQi y.1 (dC, dI) cy (wd_Mo_sets cy o0 a0 (zI y.2) (zL y.2) (zA y.2 16) (zA y.2 17) (zA y.2 19) (zA y.2 39) (zA y.2 40) (zA y.2 41) (zA y.2 42) (zA y.2 43) (zA y.2 44) (zA y.2 45) (zA y.2 46) (zA y.2 49)) A) args s 0 0 A) (F0 m 171 ls []) := by
  obtain ⟨hx, hb, hr, hml, hown, hT, hk, hK⟩ := id C0
  refine lv_iload hx hb dX11_sets_171 (lv_at hl 8 rfl) ?_
  refine lv_bipush (v := 100) hx hb dX11_sets_173 (by decide) ?_
  refine lv_icmp_ge (tgt := 218) hx hb dX11_sets_175 (by decide) (fun hb_1 => ?_) (fun hb_1 => ?_)
  · have hf := zif_t hb_1 hf
    refine lv_iload_n hx hb dX11_sets_218 rfl (lv_at hl 1 rfl) ?_
    by_cases hw20 : v3 = 0
    · have hf := zif_t hw20 hf
      refine lv_tableIn (off := 33) (tgt := 252) hx hb dX11_sets_219 (by rw [hw20]; decide) (by rw [hw20]; decide) (by rw [hw20]; decide) (by decide) ?_
      refine lv_iload hx hb dX11_sets_252 (lv_at hl 2 rfl) ?_
      cases hf
      exact zewi hx hb hr hk hK hP hD hS dX11_sets_254
    · have hf := zif_f hw20 hf
      by_cases hw21 : v3 = 1
      · have hf := zif_t hw21 hf
        refine lv_tableIn (off := 36) (tgt := 255) hx hb dX11_sets_219 (by rw [hw21]; decide) (by rw [hw21]; decide) (by rw [hw21]; decide) (by decide) ?_
        refine lv_iload hx hb dX11_sets_255 (lv_at hl 2 rfl) ?_
        refine lv_if_ne (tgt := 264) hx hb dX11_sets_257 (by decide) (fun hb_3 => ?_) (fun hb_3 => ?_)
        · have hf := zif_f hb_3 hf
          refine lv_iload hx hb dX11_sets_264 (lv_at hl 3 rfl) ?_
          cases hf
          exact zewi hx hb hr hk hK hP hD hS dX11_sets_266
        · have hf := zif_t hb_3 hf
          refine lv_iconst (v := 0) hx hb dX11_sets_260 (by decide) ?_
          refine lv_goto (tgt := 266) hx hb dX11_sets_261 (by decide) ?_
          cases hf
          exact zewi hx hb hr hk hK hP hD hS dX11_sets_266
      · have hf := zif_f hw21 hf
        by_cases hw22 : v3 = 2
        · have hf := zif_t hw22 hf
          refine lv_tableIn (off := 48) (tgt := 267) hx hb dX11_sets_219 (by rw [hw22]; decide) (by rw [hw22]; decide) (by rw [hw22]; decide) (by decide) ?_
          refine lv_iload hx hb dX11_sets_267 (lv_at hl 2 rfl) ?_
          refine lv_if_ne (tgt := 276) hx hb dX11_sets_269 (by decide) (fun hb_4 => ?_) (fun hb_4 => ?_)
          · have hf := zif_f hb_4 hf
            refine lv_iconst (v := 1) hx hb dX11_sets_276 (by decide) ?_
            refine lv_aload_n hx hb dX11_sets_277 rfl (lv_at hl 0 rfl) ?_
            refine zget (v := .int (zI s0 29)) hx hb hown hT hK hP inX11 rfl smX11 0 rfl 29 (by decide) tb_1031 rfl dX11_sets_278 ?_
            refine lv_ishl hx hb dX11_sets_281 ?_
            refine lv_iconst (v := 1) hx hb dX11_sets_282 (by decide) ?_
            refine lv_isub hx hb dX11_sets_283 ?_
            refine lv_iload hx hb dX11_sets_284 (lv_at hl 4 rfl) ?_
            refine lv_iconst (v := (-1)) hx hb dX11_sets_286 (by decide) ?_
            refine lv_ixor hx hb dX11_sets_287 ?_
            refine lv_iand hx hb dX11_sets_288 ?_
            cases hf
            exact zewi hx hb hr hk hK hP hD hS dX11_sets_289
          · have hf := zif_t hb_4 hf
            refine lv_iconst (v := 0) hx hb dX11_sets_272 (by decide) ?_
            refine lv_goto (tgt := 289) hx hb dX11_sets_273 (by decide) ?_
            cases hf
            exact zewi hx hb hr hk hK hP hD hS dX11_sets_289
        · have hf := zif_f hw22 hf
          by_cases hw23 : v3 = 3
          · have hf := zif_t hw23 hf
            refine lv_tableIn (off := 71) (tgt := 290) hx hb dX11_sets_219 (by rw [hw23]; decide) (by rw [hw23]; decide) (by rw [hw23]; decide) (by decide) ?_
            refine lv_iload hx hb dX11_sets_290 (lv_at hl 5 rfl) ?_
            cases hf
            exact zewi hx hb hr hk hK hP hD hS dX11_sets_292
          · have hf := zif_f hw23 hf
            by_cases hw24 : v3 = 4
            · have hf := zif_t hw24 hf
              refine lv_tableIn (off := 74) (tgt := 293) hx hb dX11_sets_219 (by rw [hw24]; decide) (by rw [hw24]; decide) (by rw [hw24]; decide) (by decide) ?_
              refine lv_iload hx hb dX11_sets_293 (lv_at hl 6 rfl) ?_
              cases hf
              exact zewi hx hb hr hk hK hP hD hS dX11_sets_295
            · have hf := zif_f hw24 hf
              refine lv_tableOut (tgt := 296) hx hb dX11_sets_219 (zsw 4 (by decide) (fun k hk => ?_)) (by decide) ?_
              · rcases (show k = 0 ∨ k = 1 ∨ k = 2 ∨ k = 3 ∨ k = 4 by omega) with rfl | rfl | rfl | rfl | rfl
                · exact hw20
                · exact hw21
                · exact hw22
                · exact hw23
                · exact hw24
              · refine lv_iload hx hb dX11_sets_296 (lv_at hl 7 rfl) ?_
                cases hf
                exact zewi hx hb hr hk hK hP hD hS dX11_sets_298
  · have hf := zif_f hb_1 hf
    refine lv_aload_n hx hb dX11_sets_178 rfl (lv_at hl 0 rfl) ?_
    refine zget (v := .ref (a0 49)) hx hb hown hT hK hP inX11 rfl smX11 0 rfl 49 (by decide) tb_1051 rfl dX11_sets_179 ?_
    refine lv_iload hx hb dX11_sets_182 (lv_at hl 8 rfl) ?_
    obtain ⟨hi5, hf⟩ := zck_some hf
    refine va_zald hx hb hK.1 hP 12 3 rfl rfl hi5 dX11_sets_184 ?_
    refine lv_if_ne (tgt := 191) hx hb dX11_sets_185 (by decide) (fun hb_6 => ?_) (fun hb_6 => ?_)
    · have hf := zif_f hb_6 hf
      refine lv_iinc (v := v8 + 1) (lv' := [(8, .int (v8 + 1)), (0, .ref o0), (3, .int v3), (5, .int v5), (6, .int v6), (7, .int v7), (9, .int v9), (10, .int v10), (11, .int v11)]) hx hb dX11_sets_191 hl (k := 5) rfl rfl (by decide) rfl (fun ls hl => ?_)
      refine lv_iload hx hb dX11_sets_194 (lv_at hl 6 rfl) ?_
      refine lv_if_ge (tgt := 204) hx hb dX11_sets_196 (by decide) (fun hb_7 => ?_) (fun hb_7 => ?_)
      · have hf := zif_t hb_7 hf
        refine lv_iload hx hb dX11_sets_204 (lv_at hl 6 rfl) ?_
        exact k_Mo_sets_b206 C0 s0 v3 v5 v6 v7 (v8 + 1) v11 v9 hk171 hA hP hD hS hf _ (lv_sub hl [1, 2, 3, 4, 5, 0, 8] rfl)
      · have hf := zif_f hb_7 hf
        refine lv_iload hx hb dX11_sets_199 (lv_at hl 8 rfl) ?_
        refine lv_goto (tgt := 206) hx hb dX11_sets_201 (by decide) ?_
        exact k_Mo_sets_b206 C0 s0 v3 v5 v6 v7 (v8 + 1) v11 v11 hk171 hA hP hD hS hf _ (lv_sub hl [1, 2, 3, 4, 5, 0, 8] rfl)
    · have hf := zif_t hb_6 hf
      refine lv_goto (tgt := 212) hx hb dX11_sets_188 (by decide) ?_
      exact k_Mo_sets_b212 C0 s0 v3 v5 v6 v7 v8 v9 v10 v11 hk171 hA hP hD hS hf _ (lv_sub hl [0, 1, 2, 3, 4, 5, 6, 7, 8] rfl)
set_option maxHeartbeats 4000000 in
set_option maxRecDepth 100000 in
theorem k_Mo_sets_h171 {p : Program} {l : Launch} {e : Env} {s : State} {m : MethodId} {args : Array Value} {below : List Frame} {meth : Method} {c : Code} {dC : Nat → ClassId} {dI : Nat → Nat → Nat} {cy : Nat → ClassId} {A : Nat → Prop} {o0 : Nat} {a0 : Nat → Nat} {N : Nat} {y : Int32 × zSt} (C0 : zCx p s m args meth c cX11_sets 12 (some .int) RX11 (dC, dI) cy) (v3 : Int32) (v5 : Int32) (v6 : Int32) (v7 : Int32) (hA : ∀ q, s.heap.size ≤ q → A q) : ∀ (n : Nat) (s0 : zSt) (v8 : Int32) (v9 : Int32) (v10 : Int32) (v11 : Int32) {H : Heap} {locs : List Loc} (hP : va_P (dC, dI) vwCl (wd_Mo_sets cy o0 a0 (zI s0) (zL s0) (zA s0 16) (zA s0 17) (zA s0 19) (zA s0 39) (zA s0 40) (zA s0 41) (zA s0 42) (zA s0 43) (zA s0 44) (zA s0 45) (zA s0 46) (zA s0 49)) H) (hD : va_D A (wd_Mo_sets cy o0 a0 (zI s0) (zL s0) (zA s0 16) (zA s0 17) (zA s0 19) (zA s0 39) (zA s0 40) (zA s0 41) (zA s0 42) (zA s0 43) (zA s0 44) (zA s0 45) (zA s0 46) (zA s0 49))) (hS : va_S A s.heap H locs) (hf : Mo_sets_h171 N v3 v5 v6 v7 n s0 v8 v9 v10 v11 = some y) (ls : Array Slot) (hl : lv_has ls 12 [(0, .ref o0), (3, .int v3), (5, .int v5), (6, .int v6), (7, .int v7), (8, .int v8), (9, .int v9), (10, .int v10), (11, .int v11)]), W p l e rm_Mo_sets s m args below meth c H locs 0 0 (MQ below (zQi y.1 (dC, dI) cy (wd_Mo_sets cy o0 a0 (zI y.2) (zL y.2) (zA y.2 16) (zA y.2 17) (zA y.2 19) (zA y.2 39) (zA y.2 40) (zA y.2 41) (zA y.2 42) (zA y.2 43) (zA y.2 44) (zA y.2 45) (zA y.2 46) (zA y.2 49)) A) args s 0 0 A) (F0 m 171 ls []) := by
  intro n
  induction n with
  | zero => intro s0 v8 v9 v10 v11 H locs hP hD hS hf; cases hf
  | succ n ih =>
    intro s0 v8 v9 v10 v11 H locs hP hD hS hf ls hl
    have hf : Mo_sets_b171 N (Mo_sets_h171 N v3 v5 v6 v7 n) s0 v3 v5 v6 v7 v8 v9 v10 v11 = some y := hf
    exact k_Mo_sets_b171 C0 s0 v3 v5 v6 v7 v8 v9 v10 v11 (fun s0 v8 v9 v10 v11 _ _ hP hD hS hf ls hl => ih s0 v8 v9 v10 v11 hP hD hS hf ls hl) hA hP hD hS hf ls hl
set_option maxHeartbeats 4000000 in
set_option maxRecDepth 100000 in
theorem k_Mo_sets_b153 {p : Program} {l : Launch} {e : Env} {s : State} {m : MethodId} {args : Array Value} {below : List Frame} {meth : Method} {c : Code} {dC : Nat → ClassId} {dI : Nat → Nat → Nat} {cy : Nat → ClassId} {A : Nat → Prop} {o0 : Nat} {a0 : Nat → Nat} {N : Nat} {kh69 : zSt → Int32 → Int32 → Int32 → Int32 → Option (Int32 × zSt)} {y : Int32 × zSt} (C0 : zCx p s m args meth c cX11_sets 12 (some .int) RX11 (dC, dI) cy) (s0 : zSt) (v1 : Int32) (v2 : Int32) (v3 : Int32) (v4 : Int32) (v5 : Int32) (v6 : Int32) (v7 : Int32) (v8 : Int32) (hk69 : ∀ (s0 : zSt) (v5 : Int32) (v6 : Int32) (v7 : Int32) (v8 : Int32) {H : Heap} {locs : List Loc} (_ : va_P (dC, dI) vwCl (wd_Mo_sets cy o0 a0 (zI s0) (zL s0) (zA s0 16) (zA s0 17) (zA s0 19) (zA s0 39) (zA s0 40) (zA s0 41) (zA s0 42) (zA s0 43) (zA s0 44) (zA s0 45) (zA s0 46) (zA s0 49)) H) (_ : va_D A (wd_Mo_sets cy o0 a0 (zI s0) (zL s0) (zA s0 16) (zA s0 17) (zA s0 19) (zA s0 39) (zA s0 40) (zA s0 41) (zA s0 42) (zA s0 43) (zA s0 44) (zA s0 45) (zA s0 46) (zA s0 49))) (_ : va_S A s.heap H locs) (_ : kh69 s0 v5 v6 v7 v8 = some y) (ls : Array Slot) (_ : lv_has ls 12 [(0, .ref o0), (1, .int v1), (2, .int v2), (3, .int v3), (4, .int v4), (5, .int v5), (6, .int v6), (7, .int v7), (8, .int v8)]), W p l e rm_Mo_sets s m args below meth c H locs 0 0 (MQ below (zQi y.1 (dC, dI) cy (wd_Mo_sets cy o0 a0 (zI y.2) (zL y.2) (zA y.2 16) (zA y.2 17) (zA y.2 19) (zA y.2 39) (zA y.2 40) (zA y.2 41) (zA y.2 42) (zA y.2 43) (zA y.2 44) (zA y.2 45) (zA y.2 46) (zA y.2 49)) A) args s 0 0 A) (F0 m 69 ls [])) (hA : ∀ q, s.heap.size ≤ q → A q) {H : Heap} {locs : List Loc} (hP : va_P (dC, dI) vwCl (wd_Mo_sets cy o0 a0 (zI s0) (zL s0) (zA s0 16) (zA s0 17) (zA s0 19) (zA s0 39) (zA s0 40) (zA s0 41) (zA s0 42) (zA s0 43) (zA s0 44) (zA s0 45) (zA s0 46) (zA s0 49)) H) (hD : va_D A (wd_Mo_sets cy o0 a0 (zI s0) (zL s0) (zA s0 16) (zA s0 17) (zA s0 19) (zA s0 39) (zA s0 40) (zA s0 41) (zA s0 42) (zA s0 43) (zA s0 44) (zA s0 45) (zA s0 46) (zA s0 49))) (hS : va_S A s.heap H locs) (hf : Mo_sets_b153 N kh69 s0 v1 v2 v3 v4 v5 v6 v7 v8 = some y) (ls : Array Slot) (hl : lv_has ls 12 [(0, .ref o0), (1, .int v1), (2, .int v2), (3, .int v3), (4, .int v4), (5, .int v5), (6, .int v6), (7, .int v7), (8, .int v8)]) : W p l e rm_Mo_sets s m args below meth c H locs 0 0 (MQ below (zQi y.1 (dC, dI) cy (wd_Mo_sets cy o0 a0 (zI y.2) (zL y.2) (zA y.2 16) (zA y.2 17) (zA y.2 19) (zA y.2 39) (zA y.2 40) (zA y.2 41) (zA y.2 42) (zA y.2 43) (zA y.2 44) (zA y.2 45) (zA y.2 46) (zA y.2 49)) A) args s 0 0 A) (F0 m 153 ls []) := by
  obtain ⟨hx, hb, hr, hml, hown, hT, hk, hK⟩ := id C0
  refine lv_iinc (v := v8 + 1) (lv' := [(8, .int (v8 + 1)), (0, .ref o0), (1, .int v1), (2, .int v2), (3, .int v3), (4, .int v4), (5, .int v5), (6, .int v6), (7, .int v7)]) hx hb dX11_sets_153 hl (k := 8) rfl rfl (by decide) rfl (fun ls hl => ?_)
  refine lv_goto (tgt := 69) hx hb dX11_sets_156 (by decide) ?_
  exact hk69 s0 v5 v6 v7 (v8 + 1) hP hD hS hf _ (lv_sub hl [1, 2, 3, 4, 5, 6, 7, 8, 0] rfl)
set_option maxHeartbeats 4000000 in
set_option maxRecDepth 100000 in
theorem k_Mo_sets_b122 {p : Program} {l : Launch} {e : Env} {s : State} {m : MethodId} {args : Array Value} {below : List Frame} {meth : Method} {c : Code} {dC : Nat → ClassId} {dI : Nat → Nat → Nat} {cy : Nat → ClassId} {A : Nat → Prop} {o0 : Nat} {a0 : Nat → Nat} {N : Nat} {kh69 : zSt → Int32 → Int32 → Int32 → Int32 → Option (Int32 × zSt)} {kh86 : zSt → Int32 → Int32 → Option (Int32 × zSt)} {y : Int32 × zSt} (C0 : zCx p s m args meth c cX11_sets 12 (some .int) RX11 (dC, dI) cy) (s0 : zSt) (v1 : Int32) (v2 : Int32) (v3 : Int32) (v4 : Int32) (v5 : Int32) (v6 : Int32) (v7 : Int32) (v8 : Int32) (v9 : Int32) (v10 : Int32) (hk69 : ∀ (s0 : zSt) (v5 : Int32) (v6 : Int32) (v7 : Int32) (v8 : Int32) {H : Heap} {locs : List Loc} (_ : va_P (dC, dI) vwCl (wd_Mo_sets cy o0 a0 (zI s0) (zL s0) (zA s0 16) (zA s0 17) (zA s0 19) (zA s0 39) (zA s0 40) (zA s0 41) (zA s0 42) (zA s0 43) (zA s0 44) (zA s0 45) (zA s0 46) (zA s0 49)) H) (_ : va_D A (wd_Mo_sets cy o0 a0 (zI s0) (zL s0) (zA s0 16) (zA s0 17) (zA s0 19) (zA s0 39) (zA s0 40) (zA s0 41) (zA s0 42) (zA s0 43) (zA s0 44) (zA s0 45) (zA s0 46) (zA s0 49))) (_ : va_S A s.heap H locs) (_ : kh69 s0 v5 v6 v7 v8 = some y) (ls : Array Slot) (_ : lv_has ls 12 [(0, .ref o0), (1, .int v1), (2, .int v2), (3, .int v3), (4, .int v4), (5, .int v5), (6, .int v6), (7, .int v7), (8, .int v8)]), W p l e rm_Mo_sets s m args below meth c H locs 0 0 (MQ below (zQi y.1 (dC, dI) cy (wd_Mo_sets cy o0 a0 (zI y.2) (zL y.2) (zA y.2 16) (zA y.2 17) (zA y.2 19) (zA y.2 39) (zA y.2 40) (zA y.2 41) (zA y.2 42) (zA y.2 43) (zA y.2 44) (zA y.2 45) (zA y.2 46) (zA y.2 49)) A) args s 0 0 A) (F0 m 69 ls [])) (hk86 : ∀ (s0 : zSt) (v9 : Int32) (v10 : Int32) {H : Heap} {locs : List Loc} (_ : va_P (dC, dI) vwCl (wd_Mo_sets cy o0 a0 (zI s0) (zL s0) (zA s0 16) (zA s0 17) (zA s0 19) (zA s0 39) (zA s0 40) (zA s0 41) (zA s0 42) (zA s0 43) (zA s0 44) (zA s0 45) (zA s0 46) (zA s0 49)) H) (_ : va_D A (wd_Mo_sets cy o0 a0 (zI s0) (zL s0) (zA s0 16) (zA s0 17) (zA s0 19) (zA s0 39) (zA s0 40) (zA s0 41) (zA s0 42) (zA s0 43) (zA s0 44) (zA s0 45) (zA s0 46) (zA s0 49))) (_ : va_S A s.heap H locs) (_ : kh86 s0 v9 v10 = some y) (ls : Array Slot) (_ : lv_has ls 12 [(0, .ref o0), (1, .int v1), (2, .int v2), (3, .int v3), (4, .int v4), (5, .int v5), (6, .int v6), (7, .int v7), (8, .int v8), (9, .int v9), (10, .int v10)]), W p l e rm_Mo_sets s m args below meth c H locs 0 0 (MQ below (zQi y.1 (dC, dI) cy (wd_Mo_sets cy o0 a0 (zI y.2) (zL y.2) (zA y.2 16) (zA y.2 17) (zA y.2 19) (zA y.2 39) (zA y.2 40) (zA y.2 41) (zA y.2 42) (zA y.2 43) (zA y.2 44) (zA y.2 45) (zA y.2 46) (zA y.2 49)) A) args s 0 0 A) (F0 m 86 ls [])) (hA : ∀ q, s.heap.size ≤ q → A q) {H : Heap} {locs : List Loc} (hP : va_P (dC, dI) vwCl (wd_Mo_sets cy o0 a0 (zI s0) (zL s0) (zA s0 16) (zA s0 17) (zA s0 19) (zA s0 39) (zA s0 40) (zA s0 41) (zA s0 42) (zA s0 43) (zA s0 44) (zA s0 45) (zA s0 46) (zA s0 49)) H) (hD : va_D A (wd_Mo_sets cy o0 a0 (zI s0) (zL s0) (zA s0 16) (zA s0 17) (zA s0 19) (zA s0 39) (zA s0 40) (zA s0 41) (zA s0 42) (zA s0 43) (zA s0 44) (zA s0 45) (zA s0 46) (zA s0 49))) (hS : va_S A s.heap H locs) (hf : Mo_sets_b122 N kh69 kh86 s0 v1 v2 v3 v4 v5 v6 v7 v8 v9 v10 = some y) (ls : Array Slot) (hl : lv_has ls 12 [(0, .ref o0), (1, .int v1), (2, .int v2), (3, .int v3), (4, .int v4), (5, .int v5), (6, .int v6), (7, .int v7), (8, .int v8), (9, .int v9), (10, .int v10)]) : W p l e rm_Mo_sets s m args below meth c H locs 0 0 (MQ below (zQi y.1 (dC, dI) cy (wd_Mo_sets cy o0 a0 (zI y.2) (zL y.2) (zA y.2 16) (zA y.2 17) (zA y.2 19) (zA y.2 39) (zA y.2 40) (zA y.2 41) (zA y.2 42) (zA y.2 43) (zA y.2 44) (zA y.2 45) (zA y.2 46) (zA y.2 49)) A) args s 0 0 A) (F0 m 122 ls []) := by
  obtain ⟨hx, hb, hr, hml, hown, hT, hk, hK⟩ := id C0
  refine lv_iinc (v := v10 + 1) (lv' := [(10, .int (v10 + 1)), (0, .ref o0), (1, .int v1), (2, .int v2), (3, .int v3), (4, .int v4), (5, .int v5), (6, .int v6), (7, .int v7), (8, .int v8), (9, .int v9)]) hx hb dX11_sets_122 hl (k := 10) rfl rfl (by decide) rfl (fun ls hl => ?_)
  refine lv_goto (tgt := 86) hx hb dX11_sets_125 (by decide) ?_
  exact hk86 s0 v9 (v10 + 1) hP hD hS hf _ (lv_sub hl [1, 2, 3, 4, 5, 6, 7, 8, 9, 10, 0] rfl)
set_option maxHeartbeats 4000000 in
set_option maxRecDepth 100000 in
theorem k_Mo_sets_b86 {p : Program} {l : Launch} {e : Env} {s : State} {m : MethodId} {args : Array Value} {below : List Frame} {meth : Method} {c : Code} {dC : Nat → ClassId} {dI : Nat → Nat → Nat} {cy : Nat → ClassId} {A : Nat → Prop} {o0 : Nat} {a0 : Nat → Nat} {N : Nat} {kh69 : zSt → Int32 → Int32 → Int32 → Int32 → Option (Int32 × zSt)} {kh86 : zSt → Int32 → Int32 → Option (Int32 × zSt)} {y : Int32 × zSt} (C0 : zCx p s m args meth c cX11_sets 12 (some .int) RX11 (dC, dI) cy) (s0 : zSt) (v1 : Int32) (v2 : Int32) (v3 : Int32) (v4 : Int32) (v5 : Int32) (v6 : Int32) (v7 : Int32) (v8 : Int32) (v9 : Int32) (v10 : Int32) (hk69 : ∀ (s0 : zSt) (v5 : Int32) (v6 : Int32) (v7 : Int32) (v8 : Int32) {H : Heap} {locs : List Loc} (_ : va_P (dC, dI) vwCl (wd_Mo_sets cy o0 a0 (zI s0) (zL s0) (zA s0 16) (zA s0 17) (zA s0 19) (zA s0 39) (zA s0 40) (zA s0 41) (zA s0 42) (zA s0 43) (zA s0 44) (zA s0 45) (zA s0 46) (zA s0 49)) H) (_ : va_D A (wd_Mo_sets cy o0 a0 (zI s0) (zL s0) (zA s0 16) (zA s0 17) (zA s0 19) (zA s0 39) (zA s0 40) (zA s0 41) (zA s0 42) (zA s0 43) (zA s0 44) (zA s0 45) (zA s0 46) (zA s0 49))) (_ : va_S A s.heap H locs) (_ : kh69 s0 v5 v6 v7 v8 = some y) (ls : Array Slot) (_ : lv_has ls 12 [(0, .ref o0), (1, .int v1), (2, .int v2), (3, .int v3), (4, .int v4), (5, .int v5), (6, .int v6), (7, .int v7), (8, .int v8)]), W p l e rm_Mo_sets s m args below meth c H locs 0 0 (MQ below (zQi y.1 (dC, dI) cy (wd_Mo_sets cy o0 a0 (zI y.2) (zL y.2) (zA y.2 16) (zA y.2 17) (zA y.2 19) (zA y.2 39) (zA y.2 40) (zA y.2 41) (zA y.2 42) (zA y.2 43) (zA y.2 44) (zA y.2 45) (zA y.2 46) (zA y.2 49)) A) args s 0 0 A) (F0 m 69 ls [])) (hk86 : ∀ (s0 : zSt) (v9 : Int32) (v10 : Int32) {H : Heap} {locs : List Loc} (_ : va_P (dC, dI) vwCl (wd_Mo_sets cy o0 a0 (zI s0) (zL s0) (zA s0 16) (zA s0 17) (zA s0 19) (zA s0 39) (zA s0 40) (zA s0 41) (zA s0 42) (zA s0 43) (zA s0 44) (zA s0 45) (zA s0 46) (zA s0 49)) H) (_ : va_D A (wd_Mo_sets cy o0 a0 (zI s0) (zL s0) (zA s0 16) (zA s0 17) (zA s0 19) (zA s0 39) (zA s0 40) (zA s0 41) (zA s0 42) (zA s0 43) (zA s0 44) (zA s0 45) (zA s0 46) (zA s0 49))) (_ : va_S A s.heap H locs) (_ : kh86 s0 v9 v10 = some y) (ls : Array Slot) (_ : lv_has ls 12 [(0, .ref o0), (1, .int v1), (2, .int v2), (3, .int v3), (4, .int v4), (5, .int v5), (6, .int v6), (7, .int v7), (8, .int v8), (9, .int v9), (10, .int v10)]), W p l e rm_Mo_sets s m args below meth c H locs 0 0 (MQ below (zQi y.1 (dC, dI) cy (wd_Mo_sets cy o0 a0 (zI y.2) (zL y.2) (zA y.2 16) (zA y.2 17) (zA y.2 19) (zA y.2 39) (zA y.2 40) (zA y.2 41) (zA y.2 42) (zA y.2 43) (zA y.2 44) (zA y.2 45) (zA y.2 46) (zA y.2 49)) A) args s 0 0 A) (F0 m 86 ls [])) (hA : ∀ q, s.heap.size ≤ q → A q) {H : Heap} {locs : List Loc} (hP : va_P (dC, dI) vwCl (wd_Mo_sets cy o0 a0 (zI s0) (zL s0) (zA s0 16) (zA s0 17) (zA s0 19) (zA s0 39) (zA s0 40) (zA s0 41) (zA s0 42) (zA s0 43) (zA s0 44) (zA s0 45) (zA s0 46) (zA s0 49)) H) (hD : va_D A (wd_Mo_sets cy o0 a0 (zI s0) (zL s0) (zA s0 16) (zA s0 17) (zA s0 19) (zA s0 39) (zA s0 40) (zA s0 41) (zA s0 42) (zA s0 43) (zA s0 44) (zA s0 45) (zA s0 46) (zA s0 49))) (hS : va_S A s.heap H locs) (hf : Mo_sets_b86 N kh69 kh86 s0 v1 v2 v3 v4 v5 v6 v7 v8 v9 v10 = some y) (ls : Array Slot) (hl : lv_has ls 12 [(0, .ref o0), (1, .int v1), (2, .int v2), (3, .int v3), (4, .int v4), (5, .int v5), (6, .int v6), (7, .int v7), (8, .int v8), (9, .int v9), (10, .int v10)]) : W p l e rm_Mo_sets s m args below meth c H locs 0 0 (MQ below (zQi y.1 (dC, dI) cy (wd_Mo_sets cy o0 a0 (zI y.2) (zL y.2) (zA y.2 16) (zA y.2 17) (zA y.2 19) (zA y.2 39) (zA y.2 40) (zA y.2 41) (zA y.2 42) (zA y.2 43) (zA y.2 44) (zA y.2 45) (zA y.2 46) (zA y.2 49)) A) args s 0 0 A) (F0 m 86 ls []) := by
  obtain ⟨hx, hb, hr, hml, hown, hT, hk, hK⟩ := id C0
  refine lv_iload hx hb dX11_sets_86 (lv_at hl 10 rfl) ?_
  refine lv_bipush (v := 100) hx hb dX11_sets_88 (by decide) ?_
  refine lv_icmp_ge (tgt := 128) hx hb dX11_sets_90 (by decide) (fun hb_1 => ?_) (fun hb_1 => ?_)
  · have hf := zif_t hb_1 hf
    refine lv_iload hx hb dX11_sets_128 (lv_at hl 9 rfl) ?_
    refine lv_if_ne (tgt := 136) hx hb dX11_sets_130 (by decide) (fun hb_2 => ?_) (fun hb_2 => ?_)
    · have hf := zif_f hb_2 hf
      refine lv_iinc (v := v5 + 1) (lv' := [(5, .int (v5 + 1)), (0, .ref o0), (1, .int v1), (2, .int v2), (3, .int v3), (4, .int v4), (6, .int v6), (7, .int v7), (8, .int v8), (9, .int v9), (10, .int v10)]) hx hb dX11_sets_136 hl (k := 5) rfl rfl (by decide) rfl (fun ls hl => ?_)
      refine lv_iload hx hb dX11_sets_139 (lv_at hl 6 rfl) ?_
      refine lv_iload hx hb dX11_sets_141 (lv_at hl 8 rfl) ?_
      refine lv_iand hx hb dX11_sets_143 ?_
      refine lv_istore (lv' := [(6, .int (v6 &&& v8)), (5, .int (v5 + 1)), (0, .ref o0), (1, .int v1), (2, .int v2), (3, .int v3), (4, .int v4), (7, .int v7), (8, .int v8), (9, .int v9), (10, .int v10)]) hx hb dX11_sets_144 hl (by decide) rfl (fun ls hl => ?_)
      refine lv_iload hx hb dX11_sets_146 (lv_at hl 7 rfl) ?_
      refine lv_iload hx hb dX11_sets_148 (lv_at hl 8 rfl) ?_
      refine lv_ior hx hb dX11_sets_150 ?_
      refine lv_istore (lv' := [(7, .int (v7 ||| v8)), (6, .int (v6 &&& v8)), (5, .int (v5 + 1)), (0, .ref o0), (1, .int v1), (2, .int v2), (3, .int v3), (4, .int v4), (8, .int v8), (9, .int v9), (10, .int v10)]) hx hb dX11_sets_151 hl (by decide) rfl (fun ls hl => ?_)
      exact k_Mo_sets_b153 C0 s0 v1 v2 v3 v4 (v5 + 1) (v6 &&& v8) (v7 ||| v8) v8 hk69 hA hP hD hS hf _ (lv_sub hl [3, 4, 5, 6, 7, 2, 1, 0, 8] rfl)
    · have hf := zif_t hb_2 hf
      refine lv_goto (tgt := 153) hx hb dX11_sets_133 (by decide) ?_
      exact k_Mo_sets_b153 C0 s0 v1 v2 v3 v4 v5 v6 v7 v8 hk69 hA hP hD hS hf _ (lv_sub hl [0, 1, 2, 3, 4, 5, 6, 7, 8] rfl)
  · have hf := zif_f hb_1 hf
    refine lv_aload_n hx hb dX11_sets_93 rfl (lv_at hl 0 rfl) ?_
    refine lv_iload hx hb dX11_sets_94 (lv_at hl 8 rfl) ?_
    refine lv_iload hx hb dX11_sets_96 (lv_at hl 10 rfl) ?_
    refine lv_iload_n hx hb dX11_sets_98 rfl (lv_at hl 1 rfl) ?_
    refine lv_iload_n hx hb dX11_sets_99 rfl (lv_at hl 2 rfl) ?_
    refine lv_iload hx hb dX11_sets_100 (lv_at hl 4 rfl) ?_
    obtain ⟨z3, hc4, hf⟩ := zbd_some hf
    refine zri (zV (As := [.int v8, .int v10, .int v1, .int v2, .int v4]) hx hb hml hown hT hl.1 (c_Mo_areSo o0 a0 s0 v8 v10 v1 v2 v4 hc4) zY_Mo_areSo tb_1410 (zpR hK hP [0, 1, 2, 3, 4, 5, 6, 7, 8, 9, 10, 11] rfl 0 11 rfl rfl rfl) rm_ok_Mo_sets_Mo_areSo rfl rfl (Nat.le_of_ble_eq_true rfl) dX11_sets_102 ⟨Nat.zero_le _, Nat.zero_le _⟩) ?_
    refine lv_if_ne (tgt := 111) hx hb dX11_sets_105 (by decide) (fun hb_5 => ?_) (fun hb_5 => ?_)
    · have hf := zif_f hb_5 hf
      refine lv_iconst (v := 1) hx hb dX11_sets_111 (by decide) ?_
      refine lv_istore (lv' := [(9, .int 1), (0, .ref o0), (1, .int v1), (2, .int v2), (3, .int v3), (4, .int v4), (5, .int v5), (6, .int v6), (7, .int v7), (8, .int v8), (10, .int v10)]) hx hb dX11_sets_112 hl (by decide) rfl (fun ls hl => ?_)
      refine lv_aload_n hx hb dX11_sets_114 rfl (lv_at hl 1 rfl) ?_
      refine zget (v := .ref (a0 49)) hx hb hown hT hK hP inX11 rfl smX11 0 rfl 49 (by decide) tb_1051 rfl dX11_sets_115 ?_
      refine lv_iload hx hb dX11_sets_118 (lv_at hl 10 rfl) ?_
      refine lv_iconst (v := 1) hx hb dX11_sets_120 (by decide) ?_
      obtain ⟨hi6, hf⟩ := zck_some hf
      refine zzst (ws' := (wd_Mo_sets cy o0 a0 (zI s0) (zL s0) (zA s0 16) (zA s0 17) (zA s0 19) (zA s0 39) (zA s0 40) (zA s0 41) (zA s0 42) (zA s0 43) (zA s0 44) (zA s0 45) (zA s0 46) (upd (zA s0 49) (Int32.toNatClampNeg v10) 1))) hx hb hK hP hD hS 12 3 rfl rfl hi6 (by decide) rfl dX11_sets_121 (fun H locs hP hD hS => ?_)
      exact k_Mo_sets_b122 C0 (zsA s0 49 (upd (zA s0 49) (Int32.toNatClampNeg v10) 1)) v1 v2 v3 v4 v5 v6 v7 v8 1 v10 hk69 hk86 hA hP hD hS hf _ (lv_sub hl [1, 2, 3, 4, 5, 6, 7, 8, 9, 0, 10] rfl)
    · have hf := zif_t hb_5 hf
      refine lv_goto (tgt := 122) hx hb dX11_sets_108 (by decide) ?_
      exact k_Mo_sets_b122 C0 s0 v1 v2 v3 v4 v5 v6 v7 v8 v9 v10 hk69 hk86 hA hP hD hS hf _ (lv_sub hl [0, 1, 2, 3, 4, 5, 6, 7, 8, 9, 10] rfl)
set_option maxHeartbeats 4000000 in
set_option maxRecDepth 100000 in
theorem k_Mo_sets_h86 {p : Program} {l : Launch} {e : Env} {s : State} {m : MethodId} {args : Array Value} {below : List Frame} {meth : Method} {c : Code} {dC : Nat → ClassId} {dI : Nat → Nat → Nat} {cy : Nat → ClassId} {A : Nat → Prop} {o0 : Nat} {a0 : Nat → Nat} {N : Nat} {kh69 : zSt → Int32 → Int32 → Int32 → Int32 → Option (Int32 × zSt)} {y : Int32 × zSt} (C0 : zCx p s m args meth c cX11_sets 12 (some .int) RX11 (dC, dI) cy) (v1 : Int32) (v2 : Int32) (v3 : Int32) (v4 : Int32) (v5 : Int32) (v6 : Int32) (v7 : Int32) (v8 : Int32) (hk69 : ∀ (s0 : zSt) (v5 : Int32) (v6 : Int32) (v7 : Int32) (v8 : Int32) {H : Heap} {locs : List Loc} (_ : va_P (dC, dI) vwCl (wd_Mo_sets cy o0 a0 (zI s0) (zL s0) (zA s0 16) (zA s0 17) (zA s0 19) (zA s0 39) (zA s0 40) (zA s0 41) (zA s0 42) (zA s0 43) (zA s0 44) (zA s0 45) (zA s0 46) (zA s0 49)) H) (_ : va_D A (wd_Mo_sets cy o0 a0 (zI s0) (zL s0) (zA s0 16) (zA s0 17) (zA s0 19) (zA s0 39) (zA s0 40) (zA s0 41) (zA s0 42) (zA s0 43) (zA s0 44) (zA s0 45) (zA s0 46) (zA s0 49))) (_ : va_S A s.heap H locs) (_ : kh69 s0 v5 v6 v7 v8 = some y) (ls : Array Slot) (_ : lv_has ls 12 [(0, .ref o0), (1, .int v1), (2, .int v2), (3, .int v3), (4, .int v4), (5, .int v5), (6, .int v6), (7, .int v7), (8, .int v8)]), W p l e rm_Mo_sets s m args below meth c H locs 0 0 (MQ below (zQi y.1 (dC, dI) cy (wd_Mo_sets cy o0 a0 (zI y.2) (zL y.2) (zA y.2 16) (zA y.2 17) (zA y.2 19) (zA y.2 39) (zA y.2 40) (zA y.2 41) (zA y.2 42) (zA y.2 43) (zA y.2 44) (zA y.2 45) (zA y.2 46) (zA y.2 49)) A) args s 0 0 A) (F0 m 69 ls [])) (hA : ∀ q, s.heap.size ≤ q → A q) : ∀ (n : Nat) (s0 : zSt) (v9 : Int32) (v10 : Int32) {H : Heap} {locs : List Loc} (hP : va_P (dC, dI) vwCl (wd_Mo_sets cy o0 a0 (zI s0) (zL s0) (zA s0 16) (zA s0 17) (zA s0 19) (zA s0 39) (zA s0 40) (zA s0 41) (zA s0 42) (zA s0 43) (zA s0 44) (zA s0 45) (zA s0 46) (zA s0 49)) H) (hD : va_D A (wd_Mo_sets cy o0 a0 (zI s0) (zL s0) (zA s0 16) (zA s0 17) (zA s0 19) (zA s0 39) (zA s0 40) (zA s0 41) (zA s0 42) (zA s0 43) (zA s0 44) (zA s0 45) (zA s0 46) (zA s0 49))) (hS : va_S A s.heap H locs) (hf : Mo_sets_h86 N kh69 v1 v2 v3 v4 v5 v6 v7 v8 n s0 v9 v10 = some y) (ls : Array Slot) (hl : lv_has ls 12 [(0, .ref o0), (1, .int v1), (2, .int v2), (3, .int v3), (4, .int v4), (5, .int v5), (6, .int v6), (7, .int v7), (8, .int v8), (9, .int v9), (10, .int v10)]), W p l e rm_Mo_sets s m args below meth c H locs 0 0 (MQ below (zQi y.1 (dC, dI) cy (wd_Mo_sets cy o0 a0 (zI y.2) (zL y.2) (zA y.2 16) (zA y.2 17) (zA y.2 19) (zA y.2 39) (zA y.2 40) (zA y.2 41) (zA y.2 42) (zA y.2 43) (zA y.2 44) (zA y.2 45) (zA y.2 46) (zA y.2 49)) A) args s 0 0 A) (F0 m 86 ls []) := by
  intro n
  induction n with
  | zero => intro s0 v9 v10 H locs hP hD hS hf; cases hf
  | succ n ih =>
    intro s0 v9 v10 H locs hP hD hS hf ls hl
    have hf : Mo_sets_b86 N kh69 (Mo_sets_h86 N kh69 v1 v2 v3 v4 v5 v6 v7 v8 n) s0 v1 v2 v3 v4 v5 v6 v7 v8 v9 v10 = some y := hf
    exact k_Mo_sets_b86 C0 s0 v1 v2 v3 v4 v5 v6 v7 v8 v9 v10 hk69 (fun s0 v9 v10 _ _ hP hD hS hf ls hl => ih s0 v9 v10 hP hD hS hf ls hl) hA hP hD hS hf ls hl
set_option maxHeartbeats 4000000 in
set_option maxRecDepth 100000 in
theorem k_Mo_sets_b69 {p : Program} {l : Launch} {e : Env} {s : State} {m : MethodId} {args : Array Value} {below : List Frame} {meth : Method} {c : Code} {dC : Nat → ClassId} {dI : Nat → Nat → Nat} {cy : Nat → ClassId} {A : Nat → Prop} {o0 : Nat} {a0 : Nat → Nat} {N : Nat} {kh69 : zSt → Int32 → Int32 → Int32 → Int32 → Option (Int32 × zSt)} {y : Int32 × zSt} (C0 : zCx p s m args meth c cX11_sets 12 (some .int) RX11 (dC, dI) cy) (s0 : zSt) (v1 : Int32) (v2 : Int32) (v3 : Int32) (v4 : Int32) (v5 : Int32) (v6 : Int32) (v7 : Int32) (v8 : Int32) (hk69 : ∀ (s0 : zSt) (v5 : Int32) (v6 : Int32) (v7 : Int32) (v8 : Int32) {H : Heap} {locs : List Loc} (_ : va_P (dC, dI) vwCl (wd_Mo_sets cy o0 a0 (zI s0) (zL s0) (zA s0 16) (zA s0 17) (zA s0 19) (zA s0 39) (zA s0 40) (zA s0 41) (zA s0 42) (zA s0 43) (zA s0 44) (zA s0 45) (zA s0 46) (zA s0 49)) H) (_ : va_D A (wd_Mo_sets cy o0 a0 (zI s0) (zL s0) (zA s0 16) (zA s0 17) (zA s0 19) (zA s0 39) (zA s0 40) (zA s0 41) (zA s0 42) (zA s0 43) (zA s0 44) (zA s0 45) (zA s0 46) (zA s0 49))) (_ : va_S A s.heap H locs) (_ : kh69 s0 v5 v6 v7 v8 = some y) (ls : Array Slot) (_ : lv_has ls 12 [(0, .ref o0), (1, .int v1), (2, .int v2), (3, .int v3), (4, .int v4), (5, .int v5), (6, .int v6), (7, .int v7), (8, .int v8)]), W p l e rm_Mo_sets s m args below meth c H locs 0 0 (MQ below (zQi y.1 (dC, dI) cy (wd_Mo_sets cy o0 a0 (zI y.2) (zL y.2) (zA y.2 16) (zA y.2 17) (zA y.2 19) (zA y.2 39) (zA y.2 40) (zA y.2 41) (zA y.2 42) (zA y.2 43) (zA y.2 44) (zA y.2 45) (zA y.2 46) (zA y.2 49)) A) args s 0 0 A) (F0 m 69 ls [])) (hA : ∀ q, s.heap.size ≤ q → A q) {H : Heap} {locs : List Loc} (hP : va_P (dC, dI) vwCl (wd_Mo_sets cy o0 a0 (zI s0) (zL s0) (zA s0 16) (zA s0 17) (zA s0 19) (zA s0 39) (zA s0 40) (zA s0 41) (zA s0 42) (zA s0 43) (zA s0 44) (zA s0 45) (zA s0 46) (zA s0 49)) H) (hD : va_D A (wd_Mo_sets cy o0 a0 (zI s0) (zL s0) (zA s0 16) (zA s0 17) (zA s0 19) (zA s0 39) (zA s0 40) (zA s0 41) (zA s0 42) (zA s0 43) (zA s0 44) (zA s0 45) (zA s0 46) (zA s0 49))) (hS : va_S A s.heap H locs) (hf : Mo_sets_b69 N kh69 s0 v1 v2 v3 v4 v5 v6 v7 v8 = some y) (ls : Array Slot) (hl : lv_has ls 12 [(0, .ref o0), (1, .int v1), (2, .int v2), (3, .int v3), (4, .int v4), (5, .int v5), (6, .int v6), (7, .int v7), (8, .int v8)]) : W p l e rm_Mo_sets s m args below meth c H locs 0 0 (MQ below (zQi y.1 (dC, dI) cy (wd_Mo_sets cy o0 a0 (zI y.2) (zL y.2) (zA y.2 16) (zA y.2 17) (zA y.2 19) (zA y.2 39) (zA y.2 40) (zA y.2 41) (zA y.2 42) (zA y.2 43) (zA y.2 44) (zA y.2 45) (zA y.2 46) (zA y.2 49)) A) args s 0 0 A) (F0 m 69 ls []) := by
  obtain ⟨hx, hb, hr, hml, hown, hT, hk, hK⟩ := id C0
  refine lv_iload hx hb dX11_sets_69 (lv_at hl 8 rfl) ?_
  refine lv_iconst (v := 1) hx hb dX11_sets_71 (by decide) ?_
  refine lv_aload_n hx hb dX11_sets_72 rfl (lv_at hl 0 rfl) ?_
  refine zget (v := .int (zI s0 29)) hx hb hown hT hK hP inX11 rfl smX11 0 rfl 29 (by decide) tb_1031 rfl dX11_sets_73 ?_
  refine lv_ishl hx hb dX11_sets_76 ?_
  refine lv_icmp_ge (tgt := 159) hx hb dX11_sets_77 (by decide) (fun hb_1 => ?_) (fun hb_1 => ?_)
  · have hf := zif_t hb_1 hf
    refine lv_iconst (v := 0) hx hb dX11_sets_159 (by decide) ?_
    refine lv_istore (lv' := [(8, .int 0), (0, .ref o0), (1, .int v1), (2, .int v2), (3, .int v3), (4, .int v4), (5, .int v5), (6, .int v6), (7, .int v7)]) hx hb dX11_sets_160 hl (by decide) rfl (fun ls hl => ?_)
    refine lv_iconst (v := (-1)) hx hb dX11_sets_162 (by decide) ?_
    refine lv_istore (lv' := [(9, .int (-1)), (8, .int 0), (0, .ref o0), (1, .int v1), (2, .int v2), (3, .int v3), (4, .int v4), (5, .int v5), (6, .int v6), (7, .int v7)]) hx hb dX11_sets_163 hl (by decide) rfl (fun ls hl => ?_)
    refine lv_iconst (v := (-1)) hx hb dX11_sets_165 (by decide) ?_
    refine lv_istore (lv' := [(10, .int (-1)), (9, .int (-1)), (8, .int 0), (0, .ref o0), (1, .int v1), (2, .int v2), (3, .int v3), (4, .int v4), (5, .int v5), (6, .int v6), (7, .int v7)]) hx hb dX11_sets_166 hl (by decide) rfl (fun ls hl => ?_)
    refine lv_iconst (v := 0) hx hb dX11_sets_168 (by decide) ?_
    refine lv_istore (lv' := [(11, .int 0), (10, .int (-1)), (9, .int (-1)), (8, .int 0), (0, .ref o0), (1, .int v1), (2, .int v2), (3, .int v3), (4, .int v4), (5, .int v5), (6, .int v6), (7, .int v7)]) hx hb dX11_sets_169 hl (by decide) rfl (fun ls hl => ?_)
    exact k_Mo_sets_h171 C0 v3 v5 v6 v7  hA N s0 0 (-1) (-1) 0 hP hD hS hf _ (lv_sub hl [4, 7, 9, 10, 11, 3, 2, 1, 0] rfl)
  · have hf := zif_f hb_1 hf
    refine lv_iconst (v := 0) hx hb dX11_sets_80 (by decide) ?_
    refine lv_istore (lv' := [(9, .int 0), (0, .ref o0), (1, .int v1), (2, .int v2), (3, .int v3), (4, .int v4), (5, .int v5), (6, .int v6), (7, .int v7), (8, .int v8)]) hx hb dX11_sets_81 hl (by decide) rfl (fun ls hl => ?_)
    refine lv_iconst (v := 0) hx hb dX11_sets_83 (by decide) ?_
    refine lv_istore (lv' := [(10, .int 0), (9, .int 0), (0, .ref o0), (1, .int v1), (2, .int v2), (3, .int v3), (4, .int v4), (5, .int v5), (6, .int v6), (7, .int v7), (8, .int v8)]) hx hb dX11_sets_84 hl (by decide) rfl (fun ls hl => ?_)
    exact k_Mo_sets_h86 C0 v1 v2 v3 v4 v5 v6 v7 v8 hk69 hA N s0 0 0 hP hD hS hf _ (lv_sub hl [2, 3, 4, 5, 6, 7, 8, 9, 10, 1, 0] rfl)
set_option maxHeartbeats 4000000 in
set_option maxRecDepth 100000 in
theorem k_Mo_sets_h69 {p : Program} {l : Launch} {e : Env} {s : State} {m : MethodId} {args : Array Value} {below : List Frame} {meth : Method} {c : Code} {dC : Nat → ClassId} {dI : Nat → Nat → Nat} {cy : Nat → ClassId} {A : Nat → Prop} {o0 : Nat} {a0 : Nat → Nat} {N : Nat} {y : Int32 × zSt} (C0 : zCx p s m args meth c cX11_sets 12 (some .int) RX11 (dC, dI) cy) (v1 : Int32) (v2 : Int32) (v3 : Int32) (v4 : Int32) (hA : ∀ q, s.heap.size ≤ q → A q) : ∀ (n : Nat) (s0 : zSt) (v5 : Int32) (v6 : Int32) (v7 : Int32) (v8 : Int32) {H : Heap} {locs : List Loc} (hP : va_P (dC, dI) vwCl (wd_Mo_sets cy o0 a0 (zI s0) (zL s0) (zA s0 16) (zA s0 17) (zA s0 19) (zA s0 39) (zA s0 40) (zA s0 41) (zA s0 42) (zA s0 43) (zA s0 44) (zA s0 45) (zA s0 46) (zA s0 49)) H) (hD : va_D A (wd_Mo_sets cy o0 a0 (zI s0) (zL s0) (zA s0 16) (zA s0 17) (zA s0 19) (zA s0 39) (zA s0 40) (zA s0 41) (zA s0 42) (zA s0 43) (zA s0 44) (zA s0 45) (zA s0 46) (zA s0 49))) (hS : va_S A s.heap H locs) (hf : Mo_sets_h69 N v1 v2 v3 v4 n s0 v5 v6 v7 v8 = some y) (ls : Array Slot) (hl : lv_has ls 12 [(0, .ref o0), (1, .int v1), (2, .int v2), (3, .int v3), (4, .int v4), (5, .int v5), (6, .int v6), (7, .int v7), (8, .int v8)]), W p l e rm_Mo_sets s m args below meth c H locs 0 0 (MQ below (zQi y.1 (dC, dI) cy (wd_Mo_sets cy o0 a0 (zI y.2) (zL y.2) (zA y.2 16) (zA y.2 17) (zA y.2 19) (zA y.2 39) (zA y.2 40) (zA y.2 41) (zA y.2 42) (zA y.2 43) (zA y.2 44) (zA y.2 45) (zA y.2 46) (zA y.2 49)) A) args s 0 0 A) (F0 m 69 ls []) := by
  intro n
  induction n with
  | zero => intro s0 v5 v6 v7 v8 H locs hP hD hS hf; cases hf
  | succ n ih =>
    intro s0 v5 v6 v7 v8 H locs hP hD hS hf ls hl
    have hf : Mo_sets_b69 N (Mo_sets_h69 N v1 v2 v3 v4 n) s0 v1 v2 v3 v4 v5 v6 v7 v8 = some y := hf
    exact k_Mo_sets_b69 C0 s0 v1 v2 v3 v4 v5 v6 v7 v8 (fun s0 v5 v6 v7 v8 _ _ hP hD hS hf ls hl => ih s0 v5 v6 v7 v8 hP hD hS hf ls hl) hA hP hD hS hf ls hl
set_option maxHeartbeats 4000000 in
set_option maxRecDepth 100000 in
theorem k_Mo_sets_b45 {p : Program} {l : Launch} {e : Env} {s : State} {m : MethodId} {args : Array Value} {below : List Frame} {meth : Method} {c : Code} {dC : Nat → ClassId} {dI : Nat → Nat → Nat} {cy : Nat → ClassId} {A : Nat → Prop} {o0 : Nat} {a0 : Nat → Nat} {N : Nat} {kh45 : zSt → Int32 → Option (Int32 × zSt)} {y : Int32 × zSt} (C0 : zCx p s m args meth c cX11_sets 12 (some .int) RX11 (dC, dI) cy) (s0 : zSt) (v1 : Int32) (v2 : Int32) (v3 : Int32) (v4 : Int32) (v5 : Int32) (v6 : Int32) (v7 : Int32) (v8 : Int32) (hk45 : ∀ (s0 : zSt) (v8 : Int32) {H : Heap} {locs : List Loc} (_ : va_P (dC, dI) vwCl (wd_Mo_sets cy o0 a0 (zI s0) (zL s0) (zA s0 16) (zA s0 17) (zA s0 19) (zA s0 39) (zA s0 40) (zA s0 41) (zA s0 42) (zA s0 43) (zA s0 44) (zA s0 45) (zA s0 46) (zA s0 49)) H) (_ : va_D A (wd_Mo_sets cy o0 a0 (zI s0) (zL s0) (zA s0 16) (zA s0 17) (zA s0 19) (zA s0 39) (zA s0 40) (zA s0 41) (zA s0 42) (zA s0 43) (zA s0 44) (zA s0 45) (zA s0 46) (zA s0 49))) (_ : va_S A s.heap H locs) (_ : kh45 s0 v8 = some y) (ls : Array Slot) (_ : lv_has ls 12 [(0, .ref o0), (1, .int v1), (2, .int v2), (3, .int v3), (4, .int v4), (5, .int v5), (6, .int v6), (7, .int v7), (8, .int v8)]), W p l e rm_Mo_sets s m args below meth c H locs 0 0 (MQ below (zQi y.1 (dC, dI) cy (wd_Mo_sets cy o0 a0 (zI y.2) (zL y.2) (zA y.2 16) (zA y.2 17) (zA y.2 19) (zA y.2 39) (zA y.2 40) (zA y.2 41) (zA y.2 42) (zA y.2 43) (zA y.2 44) (zA y.2 45) (zA y.2 46) (zA y.2 49)) A) args s 0 0 A) (F0 m 45 ls [])) (hA : ∀ q, s.heap.size ≤ q → A q) {H : Heap} {locs : List Loc} (hP : va_P (dC, dI) vwCl (wd_Mo_sets cy o0 a0 (zI s0) (zL s0) (zA s0 16) (zA s0 17) (zA s0 19) (zA s0 39) (zA s0 40) (zA s0 41) (zA s0 42) (zA s0 43) (zA s0 44) (zA s0 45) (zA s0 46) (zA s0 49)) H) (hD : va_D A (wd_Mo_sets cy o0 a0 (zI s0) (zL s0) (zA s0 16) (zA s0 17) (zA s0 19) (zA s0 39) (zA s0 40) (zA s0 41) (zA s0 42) (zA s0 43) (zA s0 44) (zA s0 45) (zA s0 46) (zA s0 49))) (hS : va_S A s.heap H locs) (hf : Mo_sets_b45 N kh45 s0 v1 v2 v3 v4 v5 v6 v7 v8 = some y) (ls : Array Slot) (hl : lv_has ls 12 [(0, .ref o0), (1, .int v1), (2, .int v2), (3, .int v3), (4, .int v4), (5, .int v5), (6, .int v6), (7, .int v7), (8, .int v8)]) : W p l e rm_Mo_sets s m args below meth c H locs 0 0 (MQ below (zQi y.1 (dC, dI) cy (wd_Mo_sets cy o0 a0 (zI y.2) (zL y.2) (zA y.2 16) (zA y.2 17) (zA y.2 19) (zA y.2 39) (zA y.2 40) (zA y.2 41) (zA y.2 42) (zA y.2 43) (zA y.2 44) (zA y.2 45) (zA y.2 46) (zA y.2 49)) A) args s 0 0 A) (F0 m 45 ls []) := by
  obtain ⟨hx, hb, hr, hml, hown, hT, hk, hK⟩ := id C0
  refine lv_iload hx hb dX11_sets_45 (lv_at hl 8 rfl) ?_
  refine lv_bipush (v := 100) hx hb dX11_sets_47 (by decide) ?_
  refine lv_icmp_ge (tgt := 66) hx hb dX11_sets_49 (by decide) (fun hb_1 => ?_) (fun hb_1 => ?_)
  · have hf := zif_t hb_1 hf
    refine lv_iconst (v := 0) hx hb dX11_sets_66 (by decide) ?_
    refine lv_istore (lv' := [(8, .int 0), (0, .ref o0), (1, .int v1), (2, .int v2), (3, .int v3), (4, .int v4), (5, .int v5), (6, .int v6), (7, .int v7)]) hx hb dX11_sets_67 hl (by decide) rfl (fun ls hl => ?_)
    exact k_Mo_sets_h69 C0 v1 v2 v3 v4  hA N s0 v5 v6 v7 0 hP hD hS hf _ (lv_sub hl [1, 2, 3, 4, 5, 6, 7, 8, 0] rfl)
  · have hf := zif_f hb_1 hf
    refine lv_aload_n hx hb dX11_sets_52 rfl (lv_at hl 0 rfl) ?_
    refine zget (v := .ref (a0 49)) hx hb hown hT hK hP inX11 rfl smX11 0 rfl 49 (by decide) tb_1051 rfl dX11_sets_53 ?_
    refine lv_iload hx hb dX11_sets_56 (lv_at hl 8 rfl) ?_
    refine lv_iconst (v := 0) hx hb dX11_sets_58 (by decide) ?_
    obtain ⟨hi2, hf⟩ := zck_some hf
    refine zzst (ws' := (wd_Mo_sets cy o0 a0 (zI s0) (zL s0) (zA s0 16) (zA s0 17) (zA s0 19) (zA s0 39) (zA s0 40) (zA s0 41) (zA s0 42) (zA s0 43) (zA s0 44) (zA s0 45) (zA s0 46) (upd (zA s0 49) (Int32.toNatClampNeg v8) 0))) hx hb hK hP hD hS 12 3 rfl rfl hi2 (by decide) rfl dX11_sets_59 (fun H locs hP hD hS => ?_)
    refine lv_iinc (v := v8 + 1) (lv' := [(8, .int (v8 + 1)), (0, .ref o0), (1, .int v1), (2, .int v2), (3, .int v3), (4, .int v4), (5, .int v5), (6, .int v6), (7, .int v7)]) hx hb dX11_sets_60 hl (k := 8) rfl rfl (by decide) rfl (fun ls hl => ?_)
    refine lv_goto (tgt := 45) hx hb dX11_sets_63 (by decide) ?_
    exact hk45 (zsA s0 49 (upd (zA s0 49) (Int32.toNatClampNeg v8) 0)) (v8 + 1) hP hD hS hf _ (lv_sub hl [1, 2, 3, 4, 5, 6, 7, 8, 0] rfl)
set_option maxHeartbeats 4000000 in
set_option maxRecDepth 100000 in
theorem k_Mo_sets_h45 {p : Program} {l : Launch} {e : Env} {s : State} {m : MethodId} {args : Array Value} {below : List Frame} {meth : Method} {c : Code} {dC : Nat → ClassId} {dI : Nat → Nat → Nat} {cy : Nat → ClassId} {A : Nat → Prop} {o0 : Nat} {a0 : Nat → Nat} {N : Nat} {y : Int32 × zSt} (C0 : zCx p s m args meth c cX11_sets 12 (some .int) RX11 (dC, dI) cy) (v1 : Int32) (v2 : Int32) (v3 : Int32) (v4 : Int32) (v5 : Int32) (v6 : Int32) (v7 : Int32) (hA : ∀ q, s.heap.size ≤ q → A q) : ∀ (n : Nat) (s0 : zSt) (v8 : Int32) {H : Heap} {locs : List Loc} (hP : va_P (dC, dI) vwCl (wd_Mo_sets cy o0 a0 (zI s0) (zL s0) (zA s0 16) (zA s0 17) (zA s0 19) (zA s0 39) (zA s0 40) (zA s0 41) (zA s0 42) (zA s0 43) (zA s0 44) (zA s0 45) (zA s0 46) (zA s0 49)) H) (hD : va_D A (wd_Mo_sets cy o0 a0 (zI s0) (zL s0) (zA s0 16) (zA s0 17) (zA s0 19) (zA s0 39) (zA s0 40) (zA s0 41) (zA s0 42) (zA s0 43) (zA s0 44) (zA s0 45) (zA s0 46) (zA s0 49))) (hS : va_S A s.heap H locs) (hf : Mo_sets_h45 N v1 v2 v3 v4 v5 v6 v7 n s0 v8 = some y) (ls : Array Slot) (hl : lv_has ls 12 [(0, .ref o0), (1, .int v1), (2, .int v2), (3, .int v3), (4, .int v4), (5, .int v5), (6, .int v6), (7, .int v7), (8, .int v8)]), W p l e rm_Mo_sets s m args below meth c H locs 0 0 (MQ below (zQi y.1 (dC, dI) cy (wd_Mo_sets cy o0 a0 (zI y.2) (zL y.2) (zA y.2 16) (zA y.2 17) (zA y.2 19) (zA y.2 39) (zA y.2 40) (zA y.2 41) (zA y.2 42) (zA y.2 43) (zA y.2 44) (zA y.2 45) (zA y.2 46) (zA y.2 49)) A) args s 0 0 A) (F0 m 45 ls []) := by
  intro n
  induction n with
  | zero => intro s0 v8 H locs hP hD hS hf; cases hf
  | succ n ih =>
    intro s0 v8 H locs hP hD hS hf ls hl
    have hf : Mo_sets_b45 N (Mo_sets_h45 N v1 v2 v3 v4 v5 v6 v7 n) s0 v1 v2 v3 v4 v5 v6 v7 v8 = some y := hf
    exact k_Mo_sets_b45 C0 s0 v1 v2 v3 v4 v5 v6 v7 v8 (fun s0 v8 _ _ hP hD hS hf ls hl => ih s0 v8 hP hD hS hf ls hl) hA hP hD hS hf ls hl
set_option maxHeartbeats 4000000 in
set_option maxRecDepth 100000 in
theorem k_Mo_sets_b0 {p : Program} {l : Launch} {e : Env} {s : State} {m : MethodId} {args : Array Value} {below : List Frame} {meth : Method} {c : Code} {dC : Nat → ClassId} {dI : Nat → Nat → Nat} {cy : Nat → ClassId} {A : Nat → Prop} {o0 : Nat} {a0 : Nat → Nat} {N : Nat} {y : Int32 × zSt} (C0 : zCx p s m args meth c cX11_sets 12 (some .int) RX11 (dC, dI) cy) (s0 : zSt) (v1 : Int32) (v2 : Int32) (v3 : Int32) (v4 : Int32) (hA : ∀ q, s.heap.size ≤ q → A q) {H : Heap} {locs : List Loc} (hP : va_P (dC, dI) vwCl (wd_Mo_sets cy o0 a0 (zI s0) (zL s0) (zA s0 16) (zA s0 17) (zA s0 19) (zA s0 39) (zA s0 40) (zA s0 41) (zA s0 42) (zA s0 43) (zA s0 44) (zA s0 45) (zA s0 46) (zA s0 49)) H) (hD : va_D A (wd_Mo_sets cy o0 a0 (zI s0) (zL s0) (zA s0 16) (zA s0 17) (zA s0 19) (zA s0 39) (zA s0 40) (zA s0 41) (zA s0 42) (zA s0 43) (zA s0 44) (zA s0 45) (zA s0 46) (zA s0 49))) (hS : va_S A s.heap H locs) (hf : Mo_sets_b0 N s0 v1 v2 v3 v4 = some y) (ls : Array Slot) (hl : lv_has ls 12 [(0, .ref o0), (1, .int v1), (2, .int v2), (3, .int v3), (4, .int v4)]) : W p l e rm_Mo_sets s m args below meth c H locs 0 0 (MQ below (zQi y.1 (dC, dI) cy (wd_Mo_sets cy o0 a0 (zI y.2) (zL y.2) (zA y.2 16) (zA y.2 17) (zA y.2 19) (zA y.2 39) (zA y.2 40) (zA y.2 41) (zA y.2 42) (zA y.2 43) (zA y.2 44) (zA y.2 45) (zA y.2 46) (zA y.2 49)) A) args s 0 0 A) (F0 m 0 ls []) := by
  obtain ⟨hx, hb, hr, hml, hown, hT, hk, hK⟩ := id C0
  refine lv_iload_n hx hb dX11_sets_0 rfl (lv_at hl 1 rfl) ?_
  obtain ⟨z1, hc2, hf⟩ := zbd_some hf
  refine zri (zS (As := [.int v1]) hx hb hml hown hT hl.1 (c_Mo_isQuarter v1 hc2) zY_Mo_isQuarter tb_1382 (zpS hK hP [] rfl) rm_ok_Mo_sets_Mo_isQuarter rfl rfl (Nat.le_of_ble_eq_true rfl) dX11_sets_1 ⟨Nat.zero_le _, Nat.zero_le _⟩) ?_
  refine lv_if_eq (tgt := 23) hx hb dX11_sets_4 (by decide) (fun hb_3 => ?_) (fun hb_3 => ?_)
  · have hf := zif_t hb_3 hf
    refine lv_bipush (v := (-2)) hx hb dX11_sets_23 (by decide) ?_
    cases hf
    exact zewi hx hb hr hk hK hP hD hS dX11_sets_25
  · have hf := zif_f hb_3 hf
    refine lv_iload_n hx hb dX11_sets_7 rfl (lv_at hl 2 rfl) ?_
    obtain ⟨z4, hc5, hf⟩ := zbd_some hf
    refine zri (zS (As := [.int v2]) hx hb hml hown hT hl.1 (c_Mo_isWind v2 hc5) zY_Mo_isWind tb_1367 (zpS hK hP [] rfl) rm_ok_Mo_sets_Mo_isWind rfl rfl (Nat.le_of_ble_eq_true rfl) dX11_sets_8 ⟨Nat.zero_le _, Nat.zero_le _⟩) ?_
    refine lv_if_eq (tgt := 23) hx hb dX11_sets_11 (by decide) (fun hb_6 => ?_) (fun hb_6 => ?_)
    · have hf := zif_t hb_6 hf
      refine lv_bipush (v := (-2)) hx hb dX11_sets_23 (by decide) ?_
      cases hf
      exact zewi hx hb hr hk hK hP hD hS dX11_sets_25
    · have hf := zif_f hb_6 hf
      refine lv_iload_n hx hb dX11_sets_14 rfl (lv_at hl 3 rfl) ?_
      refine lv_iconst (v := 0) hx hb dX11_sets_15 (by decide) ?_
      refine lv_iconst (v := 5) hx hb dX11_sets_16 (by decide) ?_
      obtain ⟨z7, hc8, hf⟩ := zbd_some hf
      refine zri (zS (As := [.int v3, .int 0, .int 5]) hx hb hml hown hT hl.1 (c_Mo_isIn v3 0 5 hc8) zY_Mo_isIn tb_1319 (zpS hK hP [] rfl) rm_ok_Mo_sets_Mo_isIn rfl rfl (Nat.le_of_ble_eq_true rfl) dX11_sets_17 ⟨Nat.zero_le _, Nat.zero_le _⟩) ?_
      refine lv_if_ne (tgt := 26) hx hb dX11_sets_20 (by decide) (fun hb_9 => ?_) (fun hb_9 => ?_)
      · have hf := zif_f hb_9 hf
        refine lv_iconst (v := 0) hx hb dX11_sets_26 (by decide) ?_
        refine lv_istore (lv' := [(5, .int 0), (0, .ref o0), (1, .int v1), (2, .int v2), (3, .int v3), (4, .int v4)]) hx hb dX11_sets_27 hl (by decide) rfl (fun ls hl => ?_)
        refine lv_iconst (v := 1) hx hb dX11_sets_29 (by decide) ?_
        refine lv_aload_n hx hb dX11_sets_30 rfl (lv_at hl 1 rfl) ?_
        refine zget (v := .int (zI s0 29)) hx hb hown hT hK hP inX11 rfl smX11 0 rfl 29 (by decide) tb_1031 rfl dX11_sets_31 ?_
        refine lv_ishl hx hb dX11_sets_34 ?_
        refine lv_iconst (v := 1) hx hb dX11_sets_35 (by decide) ?_
        refine lv_isub hx hb dX11_sets_36 ?_
        refine lv_istore (lv' := [(6, .int (((1 : Int32) <<< ((zI s0 29) &&& 31)) - 1)), (5, .int 0), (0, .ref o0), (1, .int v1), (2, .int v2), (3, .int v3), (4, .int v4)]) hx hb dX11_sets_37 hl (by decide) rfl (fun ls hl => ?_)
        refine lv_iconst (v := 0) hx hb dX11_sets_39 (by decide) ?_
        refine lv_istore (lv' := [(7, .int 0), (6, .int (((1 : Int32) <<< ((zI s0 29) &&& 31)) - 1)), (5, .int 0), (0, .ref o0), (1, .int v1), (2, .int v2), (3, .int v3), (4, .int v4)]) hx hb dX11_sets_40 hl (by decide) rfl (fun ls hl => ?_)
        refine lv_iconst (v := 0) hx hb dX11_sets_42 (by decide) ?_
        refine lv_istore (lv' := [(8, .int 0), (7, .int 0), (6, .int (((1 : Int32) <<< ((zI s0 29) &&& 31)) - 1)), (5, .int 0), (0, .ref o0), (1, .int v1), (2, .int v2), (3, .int v3), (4, .int v4)]) hx hb dX11_sets_43 hl (by decide) rfl (fun ls hl => ?_)
        exact k_Mo_sets_h45 C0 v1 v2 v3 v4 0 (((1 : Int32) <<< ((zI s0 29) &&& 31)) - 1) 0  hA N s0 0 hP hD hS hf _ (lv_sub hl [4, 5, 6, 7, 8, 3, 2, 1, 0] rfl)
      · have hf := zif_t hb_9 hf
        refine lv_bipush (v := (-2)) hx hb dX11_sets_23 (by decide) ?_
        cases hf
        exact zewi hx hb hr hk hK hP hD hS dX11_sets_25
set_option maxHeartbeats 4000000 in
set_option maxRecDepth 100000 in
theorem c_Mo_sets {l : Launch} {dC : Nat → ClassId} {dI : Nat → Nat → Nat} {cy : Nat → ClassId} {sz : Nat} {N : Nat} (o0 : Nat) (a0 : Nat → Nat) (s0 : zSt) (v1 : Int32) (v2 : Int32) (v3 : Int32) (v4 : Int32) {y : Int32 × zSt} (hf : Mo_sets N s0 v1 v2 v3 v4 = some y) : Met l yX11_sets (.code yX11_sets cX11_sets 12 (some .int) :: zt) rm_Mo_sets (va_Pc [.ref o0, .int v1, .int v2, .int v3, .int v4] (zPre (dC, dI) cy (wd_Mo_sets cy o0 a0 (zI s0) (zL s0) (zA s0 16) (zA s0 17) (zA s0 19) (zA s0 39) (zA s0 40) (zA s0 41) (zA s0 42) (zA s0 43) (zA s0 44) (zA s0 45) (zA s0 46) (zA s0 49)) sz)) (zQi y.1 (dC, dI) cy (wd_Mo_sets cy o0 a0 (zI y.2) (zL y.2) (zA y.2 16) (zA y.2 17) (zA y.2 19) (zA y.2 39) (zA y.2 40) (zA y.2 41) (zA y.2 42) (zA y.2 43) (zA y.2 44) (zA y.2 45) (zA y.2 46) (zA y.2 49)) (va_A (wd_Mo_sets cy o0 a0 (zI s0) (zL s0) (zA s0 16) (zA s0 17) (zA s0 19) (zA s0 39) (zA s0 40) (zA s0 41) (zA s0 42) (zA s0 43) (zA s0 44) (zA s0 45) (zA s0 46) (zA s0 49)) sz)) 0 0 (va_A (wd_Mo_sets cy o0 a0 (zI s0) (zL s0) (zA s0 16) (zA s0 17) (zA s0 19) (zA s0 39) (zA s0 40) (zA s0 41) (zA s0 42) (zA s0 43) (zA s0 44) (zA s0 45) (zA s0 46) (zA s0 49)) sz) :=
  zentW (Qw := fun A => (zQi y.1 (dC, dI) cy (wd_Mo_sets cy o0 a0 (zI y.2) (zL y.2) (zA y.2 16) (zA y.2 17) (zA y.2 19) (zA y.2 39) (zA y.2 40) (zA y.2 41) (zA y.2 42) (zA y.2 43) (zA y.2 44) (zA y.2 45) (zA y.2 46) (zA y.2 49)) A)) (by decide +kernel) (Nat.le_of_ble_eq_true rfl) (fun p e s m below meth c A C0 hA hP hD hS ls hl => k_Mo_sets_b0 C0 s0 v1 v2 v3 v4 hA hP hD hS hf ls hl)
def wd_Mo_spring (cy : Nat → ClassId) (o0 : Nat) (a0 : Nat → Nat) (g0 : Nat → Int32) (h0 : Nat → Int64) : va_W := [(o0, .inr (11, fs_Mo a0 g0 h0))]
def rm_Mo_spring : Room := { frames := 3, cells := 0, slots := 0, locals := 83 }
theorem rm_ok_Mo_spring_Mo_isEar : rm_Mo_isEar.cells = 0 ∧ rm_Mo_isEar.slots = 0 ∧ rm_Mo_isEar.frames + 1 ≤ rm_Mo_spring.frames ∧ 8 + (2 + 11) + rm_Mo_isEar.locals ≤ rm_Mo_spring.locals := by decide
theorem rm_ok_Mo_spring_Mo_isPlace : rm_Mo_isPlace.cells = 0 ∧ rm_Mo_isPlace.slots = 0 ∧ rm_Mo_isPlace.frames + 1 ≤ rm_Mo_spring.frames ∧ 8 + (1 + 11) + rm_Mo_isPlace.locals ≤ rm_Mo_spring.locals := by decide
theorem rm_ok_Mo_spring_Mo_isQuarter : rm_Mo_isQuarter.cells = 0 ∧ rm_Mo_isQuarter.slots = 0 ∧ rm_Mo_isQuarter.frames + 1 ≤ rm_Mo_spring.frames ∧ 8 + (1 + 11) + rm_Mo_isQuarter.locals ≤ rm_Mo_spring.locals := by decide
set_option maxHeartbeats 4000000 in
set_option maxRecDepth 100000 in
theorem k_Mo_spring_b0 {p : Program} {l : Launch} {e : Env} {s : State} {m : MethodId} {args : Array Value} {below : List Frame} {meth : Method} {c : Code} {dC : Nat → ClassId} {dI : Nat → Nat → Nat} {cy : Nat → ClassId} {A : Nat → Prop} {o0 : Nat} {a0 : Nat → Nat} {N : Nat} {y : Int32 × zSt} (C0 : zCx p s m args meth c cX11_spring 6 (some .boolean) RX11 (dC, dI) cy) (s0 : zSt) (v1 : Int32) (v2 : Int32) (v3 : Int32) (v4 : Int32) (v5 : Int32) (hA : ∀ q, s.heap.size ≤ q → A q) {H : Heap} {locs : List Loc} (hP : va_P (dC, dI) vwCl (wd_Mo_spring cy o0 a0 (zI s0) (zL s0)) H) (hD : va_D A (wd_Mo_spring cy o0 a0 (zI s0) (zL s0))) (hS : va_S A s.heap H locs) (hf : Mo_spring_b0 N s0 v1 v2 v3 v4 v5 = some y) (ls : Array Slot) (hl : lv_has ls 6 [(0, .ref o0), (1, .int v1), (2, .int v2), (3, .int v3), (4, .int v4), (5, .int v5)]) : W p l e rm_Mo_spring s m args below meth c H locs 0 0 (MQ below (zQi y.1 (dC, dI) cy (wd_Mo_spring cy o0 a0 (zI y.2) (zL y.2)) A) args s 0 0 A) (F0 m 0 ls []) := by
  obtain ⟨hx, hb, hr, hml, hown, hT, hk, hK⟩ := id C0
  refine lv_aload_n hx hb dX11_spring_0 rfl (lv_at hl 0 rfl) ?_
  refine lv_iload_n hx hb dX11_spring_1 rfl (lv_at hl 1 rfl) ?_
  obtain ⟨z1, hc2, hf⟩ := zbd_some hf
  refine zri (zV (As := [.int v1]) hx hb hml hown hT hl.1 (c_Mo_isEar o0 a0 s0 v1 hc2) zY_Mo_isEar tb_1333 (zpR hK hP [0] rfl 0 11 rfl rfl rfl) rm_ok_Mo_spring_Mo_isEar rfl rfl (Nat.le_of_ble_eq_true rfl) dX11_spring_2 ⟨Nat.zero_le _, Nat.zero_le _⟩) ?_
  refine lv_if_eq (tgt := 44) hx hb dX11_spring_5 (by decide) (fun hb_3 => ?_) (fun hb_3 => ?_)
  · have hf := zif_t hb_3 hf
    refine lv_iconst (v := 0) hx hb dX11_spring_44 (by decide) ?_
    cases hf
    exact zewz hx hb hr hk (Or.inl rfl) hK hP hD hS dX11_spring_45
  · have hf := zif_f hb_3 hf
    refine lv_aload_n hx hb dX11_spring_8 rfl (lv_at hl 0 rfl) ?_
    refine lv_iload_n hx hb dX11_spring_9 rfl (lv_at hl 3 rfl) ?_
    obtain ⟨z4, hc5, hf⟩ := zbd_some hf
    refine zri (zV (As := [.int v3]) hx hb hml hown hT hl.1 (c_Mo_isEar o0 a0 s0 v3 hc5) zY_Mo_isEar tb_1333 (zpR hK hP [0] rfl 0 11 rfl rfl rfl) rm_ok_Mo_spring_Mo_isEar rfl rfl (Nat.le_of_ble_eq_true rfl) dX11_spring_10 ⟨Nat.zero_le _, Nat.zero_le _⟩) ?_
    refine lv_if_eq (tgt := 44) hx hb dX11_spring_13 (by decide) (fun hb_6 => ?_) (fun hb_6 => ?_)
    · have hf := zif_t hb_6 hf
      refine lv_iconst (v := 0) hx hb dX11_spring_44 (by decide) ?_
      cases hf
      exact zewz hx hb hr hk (Or.inl rfl) hK hP hD hS dX11_spring_45
    · have hf := zif_f hb_6 hf
      refine lv_iload_n hx hb dX11_spring_16 rfl (lv_at hl 1 rfl) ?_
      refine lv_iload_n hx hb dX11_spring_17 rfl (lv_at hl 3 rfl) ?_
      refine lv_icmp_eq (tgt := 44) hx hb dX11_spring_18 (by decide) (fun hb_7 => ?_) (fun hb_7 => ?_)
      · have hf := zif_t hb_7 hf
        refine lv_iconst (v := 0) hx hb dX11_spring_44 (by decide) ?_
        cases hf
        exact zewz hx hb hr hk (Or.inl rfl) hK hP hD hS dX11_spring_45
      · have hf := zif_f hb_7 hf
        refine lv_iload_n hx hb dX11_spring_21 rfl (lv_at hl 2 rfl) ?_
        obtain ⟨z8, hc9, hf⟩ := zbd_some hf
        refine zri (zS (As := [.int v2]) hx hb hml hown hT hl.1 (c_Mo_isPlace v2 hc9) zY_Mo_isPlace tb_1364 (zpS hK hP [] rfl) rm_ok_Mo_spring_Mo_isPlace rfl rfl (Nat.le_of_ble_eq_true rfl) dX11_spring_22 ⟨Nat.zero_le _, Nat.zero_le _⟩) ?_
        refine lv_if_eq (tgt := 44) hx hb dX11_spring_25 (by decide) (fun hb_10 => ?_) (fun hb_10 => ?_)
        · have hf := zif_t hb_10 hf
          refine lv_iconst (v := 0) hx hb dX11_spring_44 (by decide) ?_
          cases hf
          exact zewz hx hb hr hk (Or.inl rfl) hK hP hD hS dX11_spring_45
        · have hf := zif_f hb_10 hf
          refine lv_iload hx hb dX11_spring_28 (lv_at hl 4 rfl) ?_
          obtain ⟨z11, hc12, hf⟩ := zbd_some hf
          refine zri (zS (As := [.int v4]) hx hb hml hown hT hl.1 (c_Mo_isPlace v4 hc12) zY_Mo_isPlace tb_1364 (zpS hK hP [] rfl) rm_ok_Mo_spring_Mo_isPlace rfl rfl (Nat.le_of_ble_eq_true rfl) dX11_spring_30 ⟨Nat.zero_le _, Nat.zero_le _⟩) ?_
          refine lv_if_eq (tgt := 44) hx hb dX11_spring_33 (by decide) (fun hb_13 => ?_) (fun hb_13 => ?_)
          · have hf := zif_t hb_13 hf
            refine lv_iconst (v := 0) hx hb dX11_spring_44 (by decide) ?_
            cases hf
            exact zewz hx hb hr hk (Or.inl rfl) hK hP hD hS dX11_spring_45
          · have hf := zif_f hb_13 hf
            refine lv_iload hx hb dX11_spring_36 (lv_at hl 5 rfl) ?_
            obtain ⟨z14, hc15, hf⟩ := zbd_some hf
            refine zri (zS (As := [.int v5]) hx hb hml hown hT hl.1 (c_Mo_isQuarter v5 hc15) zY_Mo_isQuarter tb_1382 (zpS hK hP [] rfl) rm_ok_Mo_spring_Mo_isQuarter rfl rfl (Nat.le_of_ble_eq_true rfl) dX11_spring_38 ⟨Nat.zero_le _, Nat.zero_le _⟩) ?_
            refine lv_if_ne (tgt := 46) hx hb dX11_spring_41 (by decide) (fun hb_16 => ?_) (fun hb_16 => ?_)
            · have hf := zif_f hb_16 hf
              refine lv_aload_n hx hb dX11_spring_46 rfl (lv_at hl 0 rfl) ?_
              refine lv_iconst (v := 1) hx hb dX11_spring_47 (by decide) ?_
              refine zput (fs' := fs_Mo a0 (upd (zI s0) 50 1) (zL s0)) (ws' := (wd_Mo_spring cy o0 a0 (upd (zI s0) 50 1) (zL s0))) hx hb hown hT hK hP hD hS inX11 rfl smX11 tyX11_ok nmX11 0 rfl 50 (by decide) tb_1052 rfl rfl rfl (Nat.le_of_ble_eq_true rfl) rfl rfl dX11_spring_48 (fun H locs hP hD hS => ?_)
              refine lv_aload_n hx hb dX11_spring_51 rfl (lv_at hl 0 rfl) ?_
              refine lv_iload_n hx hb dX11_spring_52 rfl (lv_at hl 1 rfl) ?_
              refine zput (fs' := fs_Mo a0 (upd (upd (zI s0) 50 1) 51 v1) (zL s0)) (ws' := (wd_Mo_spring cy o0 a0 (upd (upd (zI s0) 50 1) 51 v1) (zL s0))) hx hb hown hT hK hP hD hS inX11 rfl smX11 tyX11_ok nmX11 0 rfl 51 (by decide) tb_1053 rfl rfl rfl (Nat.le_of_ble_eq_true rfl) rfl rfl dX11_spring_53 (fun H locs hP hD hS => ?_)
              refine lv_aload_n hx hb dX11_spring_56 rfl (lv_at hl 0 rfl) ?_
              refine lv_iload_n hx hb dX11_spring_57 rfl (lv_at hl 2 rfl) ?_
              refine zput (fs' := fs_Mo a0 (upd (upd (upd (zI s0) 50 1) 51 v1) 52 v2) (zL s0)) (ws' := (wd_Mo_spring cy o0 a0 (upd (upd (upd (zI s0) 50 1) 51 v1) 52 v2) (zL s0))) hx hb hown hT hK hP hD hS inX11 rfl smX11 tyX11_ok nmX11 0 rfl 52 (by decide) tb_1054 rfl rfl rfl (Nat.le_of_ble_eq_true rfl) rfl rfl dX11_spring_58 (fun H locs hP hD hS => ?_)
              refine lv_aload_n hx hb dX11_spring_61 rfl (lv_at hl 0 rfl) ?_
              refine lv_iload_n hx hb dX11_spring_62 rfl (lv_at hl 3 rfl) ?_
              refine zput (fs' := fs_Mo a0 (upd (upd (upd (upd (zI s0) 50 1) 51 v1) 52 v2) 53 v3) (zL s0)) (ws' := (wd_Mo_spring cy o0 a0 (upd (upd (upd (upd (zI s0) 50 1) 51 v1) 52 v2) 53 v3) (zL s0))) hx hb hown hT hK hP hD hS inX11 rfl smX11 tyX11_ok nmX11 0 rfl 53 (by decide) tb_1055 rfl rfl rfl (Nat.le_of_ble_eq_true rfl) rfl rfl dX11_spring_63 (fun H locs hP hD hS => ?_)
              refine lv_aload_n hx hb dX11_spring_66 rfl (lv_at hl 0 rfl) ?_
              refine lv_iload hx hb dX11_spring_67 (lv_at hl 4 rfl) ?_
              refine zput (fs' := fs_Mo a0 (upd (upd (upd (upd (upd (zI s0) 50 1) 51 v1) 52 v2) 53 v3) 54 v4) (zL s0)) (ws' := (wd_Mo_spring cy o0 a0 (upd (upd (upd (upd (upd (zI s0) 50 1) 51 v1) 52 v2) 53 v3) 54 v4) (zL s0))) hx hb hown hT hK hP hD hS inX11 rfl smX11 tyX11_ok nmX11 0 rfl 54 (by decide) tb_1056 rfl rfl rfl (Nat.le_of_ble_eq_true rfl) rfl rfl dX11_spring_69 (fun H locs hP hD hS => ?_)
              refine lv_aload_n hx hb dX11_spring_72 rfl (lv_at hl 0 rfl) ?_
              refine lv_iload hx hb dX11_spring_73 (lv_at hl 5 rfl) ?_
              refine zput (fs' := fs_Mo a0 (upd (upd (upd (upd (upd (upd (zI s0) 50 1) 51 v1) 52 v2) 53 v3) 54 v4) 55 v5) (zL s0)) (ws' := (wd_Mo_spring cy o0 a0 (upd (upd (upd (upd (upd (upd (zI s0) 50 1) 51 v1) 52 v2) 53 v3) 54 v4) 55 v5) (zL s0))) hx hb hown hT hK hP hD hS inX11 rfl smX11 tyX11_ok nmX11 0 rfl 55 (by decide) tb_1057 rfl rfl rfl (Nat.le_of_ble_eq_true rfl) rfl rfl dX11_spring_75 (fun H locs hP hD hS => ?_)
              refine lv_iconst (v := 1) hx hb dX11_spring_78 (by decide) ?_
              cases hf
              exact zewz hx hb hr hk (Or.inr rfl) hK hP hD hS dX11_spring_79
            · have hf := zif_t hb_16 hf
              refine lv_iconst (v := 0) hx hb dX11_spring_44 (by decide) ?_
              cases hf
              exact zewz hx hb hr hk (Or.inl rfl) hK hP hD hS dX11_spring_45
set_option maxHeartbeats 4000000 in
set_option maxRecDepth 100000 in
theorem c_Mo_spring {l : Launch} {dC : Nat → ClassId} {dI : Nat → Nat → Nat} {cy : Nat → ClassId} {sz : Nat} {N : Nat} (o0 : Nat) (a0 : Nat → Nat) (s0 : zSt) (v1 : Int32) (v2 : Int32) (v3 : Int32) (v4 : Int32) (v5 : Int32) {y : Int32 × zSt} (hf : Mo_spring N s0 v1 v2 v3 v4 v5 = some y) : Met l yX11_spring (.code yX11_spring cX11_spring 6 (some .boolean) :: zt) rm_Mo_spring (va_Pc [.ref o0, .int v1, .int v2, .int v3, .int v4, .int v5] (zPre (dC, dI) cy (wd_Mo_spring cy o0 a0 (zI s0) (zL s0)) sz)) (zQi y.1 (dC, dI) cy (wd_Mo_spring cy o0 a0 (zI y.2) (zL y.2)) (va_A (wd_Mo_spring cy o0 a0 (zI s0) (zL s0)) sz)) 0 0 (va_A (wd_Mo_spring cy o0 a0 (zI s0) (zL s0)) sz) :=
  zentW (Qw := fun A => (zQi y.1 (dC, dI) cy (wd_Mo_spring cy o0 a0 (zI y.2) (zL y.2)) A)) (by decide +kernel) (Nat.le_of_ble_eq_true rfl) (fun p e s m below meth c A C0 hA hP hD hS ls hl => k_Mo_spring_b0 C0 s0 v1 v2 v3 v4 v5 hA hP hD hS hf ls hl)
def wd_Mo_isParted (cy : Nat → ClassId) (o0 : Nat) (a0 : Nat → Nat) (g0 : Nat → Int32) (h0 : Nat → Int64) (x0_16 : Nat → Int32) (x0_17 : Nat → Int32) (x0_19 : Nat → Int32) (x0_21 : Nat → Int32) (x0_39 : Nat → Int32) (x0_40 : Nat → Int32) (x0_41 : Nat → Int32) (x0_42 : Nat → Int32) (x0_43 : Nat → Int32) (x0_44 : Nat → Int32) (x0_45 : Nat → Int32) (x0_46 : Nat → Int32) : va_W := [(o0, .inr (11, fs_Mo a0 g0 h0)), (a0 16, .inl (cy 0, 11, .inl x0_16)), (a0 17, .inl (cy 0, 11, .inl x0_17)), (a0 19, .inl (cy 0, 4, .inl x0_19)), (a0 21, .inl (cy 0, 9, .inl x0_21)), (a0 39, .inl (cy 0, 40, .inl x0_39)), (a0 40, .inl (cy 0, 40, .inl x0_40)), (a0 41, .inl (cy 0, 40, .inl x0_41)), (a0 42, .inl (cy 0, 40, .inl x0_42)), (a0 43, .inl (cy 0, 40, .inl x0_43)), (a0 44, .inl (cy 0, 40, .inl x0_44)), (a0 45, .inl (cy 0, 40, .inl x0_45)), (a0 46, .inl (cy 0, 40, .inl x0_46))]
def rm_Mo_isParted : Room := { frames := 4, cells := 0, slots := 0, locals := 118 }
theorem rm_ok_Mo_isParted_Mo_beastSet : rm_Mo_beastSet.cells = 0 ∧ rm_Mo_beastSet.slots = 0 ∧ rm_Mo_beastSet.frames + 1 ≤ rm_Mo_isParted.frames ∧ 8 + (3 + 11) + rm_Mo_beastSet.locals ≤ rm_Mo_isParted.locals := by decide
theorem rm_ok_Mo_isParted_Mo_counts : rm_Mo_counts.cells = 0 ∧ rm_Mo_counts.slots = 0 ∧ rm_Mo_counts.frames + 1 ≤ rm_Mo_isParted.frames ∧ 8 + (4 + 11) + rm_Mo_counts.locals ≤ rm_Mo_isParted.locals := by decide
theorem rm_ok_Mo_isParted_Mo_isSo : rm_Mo_isSo.cells = 0 ∧ rm_Mo_isSo.slots = 0 ∧ rm_Mo_isSo.frames + 1 ≤ rm_Mo_isParted.frames ∧ 8 + (6 + 11) + rm_Mo_isSo.locals ≤ rm_Mo_isParted.locals := by decide
set_option maxHeartbeats 4000000 in
set_option maxRecDepth 100000 in
theorem k_Mo_isParted_b118 {p : Program} {l : Launch} {e : Env} {s : State} {m : MethodId} {args : Array Value} {below : List Frame} {meth : Method} {c : Code} {dC : Nat → ClassId} {dI : Nat → Nat → Nat} {cy : Nat → ClassId} {o0 : Nat} {a0 : Nat → Nat} {N : Nat} {kh16 : Int32 → Int32 → Option (Int32)} {y : Int32} (C0 : zCx p s m args meth c cX11_isParted 7 (some .boolean) RX11 (dC, dI) cy) (s0 : zSt) (v1 : Int32) (v2 : Int32) (v3 : Int32) (v4 : Int32) (v5 : Int32) (v6 : Int32) (hk16 : ∀ (v5 : Int32) (v6 : Int32) (_ : kh16 v5 v6 = some y) (ls : Array Slot) (_ : lv_has ls 7 [(0, .ref o0), (1, .int v1), (2, .int v2), (3, .int v3), (4, .int v4), (5, .int v5), (6, .int v6)]), W p l e rm_Mo_isParted s m args below meth c s.heap [] 0 0 (MQ below (zSi y) args s 0 0 (fun _ => False)) (F0 m 16 ls [])) (hP : va_P (dC, dI) vwCl (wd_Mo_isParted cy o0 a0 (zI s0) (zL s0) (zA s0 16) (zA s0 17) (zA s0 19) (zA s0 21) (zA s0 39) (zA s0 40) (zA s0 41) (zA s0 42) (zA s0 43) (zA s0 44) (zA s0 45) (zA s0 46)) s.heap) (hf : Mo_isParted_b118 N kh16 s0 v1 v2 v3 v4 v5 v6 = some y) (ls : Array Slot) (hl : lv_has ls 7 [(0, .ref o0), (1, .int v1), (2, .int v2), (3, .int v3), (4, .int v4), (5, .int v5), (6, .int v6)]) : W p l e rm_Mo_isParted s m args below meth c s.heap [] 0 0 (MQ below (zSi y) args s 0 0 (fun _ => False)) (F0 m 118 ls []) := by
  obtain ⟨hx, hb, hr, hml, hown, hT, hk, hK⟩ := id C0
  refine lv_iinc (v := v6 + 1) (lv' := [(6, .int (v6 + 1)), (0, .ref o0), (1, .int v1), (2, .int v2), (3, .int v3), (4, .int v4), (5, .int v5)]) hx hb dX11_isParted_118 hl (k := 6) rfl rfl (by decide) rfl (fun ls hl => ?_)
  refine lv_goto (tgt := 16) hx hb dX11_isParted_121 (by decide) ?_
  exact hk16 v5 (v6 + 1) hf _ (lv_sub hl [1, 2, 3, 4, 5, 6, 0] rfl)
set_option maxHeartbeats 4000000 in
set_option maxRecDepth 100000 in
theorem k_Mo_isParted_b16 {p : Program} {l : Launch} {e : Env} {s : State} {m : MethodId} {args : Array Value} {below : List Frame} {meth : Method} {c : Code} {dC : Nat → ClassId} {dI : Nat → Nat → Nat} {cy : Nat → ClassId} {o0 : Nat} {a0 : Nat → Nat} {N : Nat} {kh16 : Int32 → Int32 → Option (Int32)} {y : Int32} (C0 : zCx p s m args meth c cX11_isParted 7 (some .boolean) RX11 (dC, dI) cy) (s0 : zSt) (v1 : Int32) (v2 : Int32) (v3 : Int32) (v4 : Int32) (v5 : Int32) (v6 : Int32) (hk16 : ∀ (v5 : Int32) (v6 : Int32) (_ : kh16 v5 v6 = some y) (ls : Array Slot) (_ : lv_has ls 7 [(0, .ref o0), (1, .int v1), (2, .int v2), (3, .int v3), (4, .int v4), (5, .int v5), (6, .int v6)]), W p l e rm_Mo_isParted s m args below meth c s.heap [] 0 0 (MQ below (zSi y) args s 0 0 (fun _ => False)) (F0 m 16 ls [])) (hP : va_P (dC, dI) vwCl (wd_Mo_isParted cy o0 a0 (zI s0) (zL s0) (zA s0 16) (zA s0 17) (zA s0 19) (zA s0 21) (zA s0 39) (zA s0 40) (zA s0 41) (zA s0 42) (zA s0 43) (zA s0 44) (zA s0 45) (zA s0 46)) s.heap) (hf : Mo_isParted_b16 N kh16 s0 v1 v2 v3 v4 v5 v6 = some y) (ls : Array Slot) (hl : lv_has ls 7 [(0, .ref o0), (1, .int v1), (2, .int v2), (3, .int v3), (4, .int v4), (5, .int v5), (6, .int v6)]) : W p l e rm_Mo_isParted s m args below meth c s.heap [] 0 0 (MQ below (zSi y) args s 0 0 (fun _ => False)) (F0 m 16 ls []) := by
  obtain ⟨hx, hb, hr, hml, hown, hT, hk, hK⟩ := id C0
  refine lv_iload hx hb dX11_isParted_16 (lv_at hl 6 rfl) ?_
  refine lv_aload_n hx hb dX11_isParted_18 rfl (lv_at hl 0 rfl) ?_
  refine zget (v := .int (zI s0 47)) hx hb hown hT hK hP inX11 rfl smX11 0 rfl 47 (by decide) tb_1049 rfl dX11_isParted_19 ?_
  refine lv_icmp_ge (tgt := 124) hx hb dX11_isParted_22 (by decide) (fun hb_1 => ?_) (fun hb_1 => ?_)
  · have hf := zif_t hb_1 hf
    refine lv_iload hx hb dX11_isParted_124 (lv_at hl 5 rfl) ?_
    obtain ⟨hq2, hf⟩ := zcb_some hf
    cases hf
    exact zerz hx hb hr hk hq2 dX11_isParted_126
  · have hf := zif_f hb_1 hf
    refine lv_iload hx hb dX11_isParted_25 (lv_at hl 5 rfl) ?_
    refine lv_if_eq (tgt := 124) hx hb dX11_isParted_27 (by decide) (fun hb_3 => ?_) (fun hb_3 => ?_)
    · have hf := zif_t hb_3 hf
      refine lv_iload hx hb dX11_isParted_124 (lv_at hl 5 rfl) ?_
      obtain ⟨hq4, hf⟩ := zcb_some hf
      cases hf
      exact zerz hx hb hr hk hq4 dX11_isParted_126
    · have hf := zif_f hb_3 hf
      refine lv_aload_n hx hb dX11_isParted_30 rfl (lv_at hl 0 rfl) ?_
      refine lv_iload hx hb dX11_isParted_31 (lv_at hl 6 rfl) ?_
      refine lv_iconst (v := 0) hx hb dX11_isParted_33 (by decide) ?_
      refine lv_iload_n hx hb dX11_isParted_34 rfl (lv_at hl 3 rfl) ?_
      obtain ⟨z5, hc6, hf⟩ := zbd_some hf
      refine zri (zV (As := [.int v6, .int 0, .int v3]) hx hb hml hown hT hl.1 (c_Mo_counts o0 a0 s0 v6 0 v3 hc6) zY_Mo_counts tb_1414 (zpR hK hP [0, 5, 11, 12] rfl 0 11 rfl rfl rfl) rm_ok_Mo_isParted_Mo_counts rfl rfl (Nat.le_of_ble_eq_true rfl) dX11_isParted_35 ⟨Nat.zero_le _, Nat.zero_le _⟩) ?_
      refine lv_if_eq (tgt := 118) hx hb dX11_isParted_38 (by decide) (fun hb_7 => ?_) (fun hb_7 => ?_)
      · have hf := zif_t hb_7 hf
        exact k_Mo_isParted_b118 C0 s0 v1 v2 v3 v4 v5 v6 hk16 hP hf _ (lv_sub hl [0, 1, 2, 3, 4, 5, 6] rfl)
      · have hf := zif_f hb_7 hf
        refine lv_aload_n hx hb dX11_isParted_41 rfl (lv_at hl 0 rfl) ?_
        refine zget (v := .ref (a0 40)) hx hb hown hT hK hP inX11 rfl smX11 0 rfl 40 (by decide) tb_1042 rfl dX11_isParted_42 ?_
        refine lv_iload hx hb dX11_isParted_45 (lv_at hl 6 rfl) ?_
        obtain ⟨hi8, hf⟩ := zck_some hf
        refine va_iald hx hb hK.1 hP 6 0 rfl rfl hi8 dX11_isParted_47 ?_
        refine lv_aload_n hx hb dX11_isParted_48 rfl (lv_at hl 0 rfl) ?_
        refine zget (v := .int (zI s0 55)) hx hb hown hT hK hP inX11 rfl smX11 0 rfl 55 (by decide) tb_1057 rfl dX11_isParted_49 ?_
        refine lv_icmp_eq (tgt := 58) hx hb dX11_isParted_52 (by decide) (fun hb_9 => ?_) (fun hb_9 => ?_)
        · have hf := zif_t hb_9 hf
          refine lv_aload_n hx hb dX11_isParted_58 rfl (lv_at hl 0 rfl) ?_
          refine zget (v := .ref (a0 41)) hx hb hown hT hK hP inX11 rfl smX11 0 rfl 41 (by decide) tb_1043 rfl dX11_isParted_59 ?_
          refine lv_iload hx hb dX11_isParted_62 (lv_at hl 6 rfl) ?_
          obtain ⟨hi10, hf⟩ := zck_some hf
          refine va_iald hx hb hK.1 hP 7 0 rfl rfl hi10 dX11_isParted_64 ?_
          refine lv_aload_n hx hb dX11_isParted_65 rfl (lv_at hl 0 rfl) ?_
          refine zget (v := .int (zI s0 51)) hx hb hown hT hK hP inX11 rfl smX11 0 rfl 51 (by decide) tb_1053 rfl dX11_isParted_66 ?_
          refine lv_icmp_ne (tgt := 89) hx hb dX11_isParted_69 (by decide) (fun hb_11 => ?_) (fun hb_11 => ?_)
          · have hf := zif_f hb_11 hf
            refine lv_aload_n hx hb dX11_isParted_89 rfl (lv_at hl 0 rfl) ?_
            refine zget (v := .ref (a0 41)) hx hb hown hT hK hP inX11 rfl smX11 0 rfl 41 (by decide) tb_1043 rfl dX11_isParted_90 ?_
            refine lv_iload hx hb dX11_isParted_93 (lv_at hl 6 rfl) ?_
            obtain ⟨hi12, hf⟩ := zck_some hf
            refine va_iald hx hb hK.1 hP 7 0 rfl rfl hi12 dX11_isParted_95 ?_
            refine lv_aload_n hx hb dX11_isParted_96 rfl (lv_at hl 0 rfl) ?_
            refine zget (v := .int (zI s0 53)) hx hb hown hT hK hP inX11 rfl smX11 0 rfl 53 (by decide) tb_1055 rfl dX11_isParted_97 ?_
            refine lv_icmp_ne (tgt := 118) hx hb dX11_isParted_100 (by decide) (fun hb_13 => ?_) (fun hb_13 => ?_)
            · have hf := zif_f hb_13 hf
              exact k_Mo_isParted_b118 C0 s0 v1 v2 v3 v4 v5 v6 hk16 hP hf _ (lv_sub hl [0, 1, 2, 3, 4, 5, 6] rfl)
            · have hf := zif_t hb_13 hf
              refine lv_aload_n hx hb dX11_isParted_103 rfl (lv_at hl 0 rfl) ?_
              refine lv_iload hx hb dX11_isParted_104 (lv_at hl 6 rfl) ?_
              refine lv_iload hx hb dX11_isParted_106 (lv_at hl 4 rfl) ?_
              refine lv_aload_n hx hb dX11_isParted_108 rfl (lv_at hl 0 rfl) ?_
              refine zget (v := .int (zI s0 54)) hx hb hown hT hK hP inX11 rfl smX11 0 rfl 54 (by decide) tb_1056 rfl dX11_isParted_109 ?_
              refine lv_iload_n hx hb dX11_isParted_112 rfl (lv_at hl 2 rfl) ?_
              obtain ⟨z14, hc15, hf⟩ := zbd_some hf
              refine zri (zV (As := [.int v6, .int v4, .int (zI s0 54), .int v2]) hx hb hml hown hT hl.1 (c_Mo_isSo o0 a0 s0 v6 v4 (zI s0 54) v2 hc15) zY_Mo_isSo tb_1418 (zpR hK hP [0, 1, 2, 3, 7, 8, 9, 10] rfl 0 11 rfl rfl rfl) rm_ok_Mo_isParted_Mo_isSo rfl rfl (Nat.le_of_ble_eq_true rfl) dX11_isParted_113 ⟨Nat.zero_le _, Nat.zero_le _⟩) ?_
              refine lv_istore (lv' := [(5, .int z14), (0, .ref o0), (1, .int v1), (2, .int v2), (3, .int v3), (4, .int v4), (6, .int v6)]) hx hb dX11_isParted_116 hl (by decide) rfl (fun ls hl => ?_)
              exact k_Mo_isParted_b118 C0 s0 v1 v2 v3 v4 z14 v6 hk16 hP hf _ (lv_sub hl [1, 2, 3, 4, 5, 0, 6] rfl)
          · have hf := zif_t hb_11 hf
            refine lv_aload_n hx hb dX11_isParted_72 rfl (lv_at hl 0 rfl) ?_
            refine lv_iload hx hb dX11_isParted_73 (lv_at hl 6 rfl) ?_
            refine lv_iload_n hx hb dX11_isParted_75 rfl (lv_at hl 1 rfl) ?_
            refine lv_aload_n hx hb dX11_isParted_76 rfl (lv_at hl 0 rfl) ?_
            refine zget (v := .int (zI s0 52)) hx hb hown hT hK hP inX11 rfl smX11 0 rfl 52 (by decide) tb_1054 rfl dX11_isParted_77 ?_
            refine lv_iload_n hx hb dX11_isParted_80 rfl (lv_at hl 2 rfl) ?_
            obtain ⟨z16, hc17, hf⟩ := zbd_some hf
            refine zri (zV (As := [.int v6, .int v1, .int (zI s0 52), .int v2]) hx hb hml hown hT hl.1 (c_Mo_isSo o0 a0 s0 v6 v1 (zI s0 52) v2 hc17) zY_Mo_isSo tb_1418 (zpR hK hP [0, 1, 2, 3, 7, 8, 9, 10] rfl 0 11 rfl rfl rfl) rm_ok_Mo_isParted_Mo_isSo rfl rfl (Nat.le_of_ble_eq_true rfl) dX11_isParted_81 ⟨Nat.zero_le _, Nat.zero_le _⟩) ?_
            refine lv_istore (lv' := [(5, .int z16), (0, .ref o0), (1, .int v1), (2, .int v2), (3, .int v3), (4, .int v4), (6, .int v6)]) hx hb dX11_isParted_84 hl (by decide) rfl (fun ls hl => ?_)
            refine lv_goto (tgt := 118) hx hb dX11_isParted_86 (by decide) ?_
            exact k_Mo_isParted_b118 C0 s0 v1 v2 v3 v4 z16 v6 hk16 hP hf _ (lv_sub hl [1, 2, 3, 4, 5, 0, 6] rfl)
        · have hf := zif_f hb_9 hf
          refine lv_goto (tgt := 118) hx hb dX11_isParted_55 (by decide) ?_
          exact k_Mo_isParted_b118 C0 s0 v1 v2 v3 v4 v5 v6 hk16 hP hf _ (lv_sub hl [0, 1, 2, 3, 4, 5, 6] rfl)
set_option maxHeartbeats 4000000 in
set_option maxRecDepth 100000 in
theorem k_Mo_isParted_h16 {p : Program} {l : Launch} {e : Env} {s : State} {m : MethodId} {args : Array Value} {below : List Frame} {meth : Method} {c : Code} {dC : Nat → ClassId} {dI : Nat → Nat → Nat} {cy : Nat → ClassId} {o0 : Nat} {a0 : Nat → Nat} {N : Nat} {y : Int32} (C0 : zCx p s m args meth c cX11_isParted 7 (some .boolean) RX11 (dC, dI) cy) (s0 : zSt) (v1 : Int32) (v2 : Int32) (v3 : Int32) (v4 : Int32) (hP : va_P (dC, dI) vwCl (wd_Mo_isParted cy o0 a0 (zI s0) (zL s0) (zA s0 16) (zA s0 17) (zA s0 19) (zA s0 21) (zA s0 39) (zA s0 40) (zA s0 41) (zA s0 42) (zA s0 43) (zA s0 44) (zA s0 45) (zA s0 46)) s.heap) : ∀ (n : Nat) (v5 : Int32) (v6 : Int32) (hf : Mo_isParted_h16 N s0 v1 v2 v3 v4 n v5 v6 = some y) (ls : Array Slot) (hl : lv_has ls 7 [(0, .ref o0), (1, .int v1), (2, .int v2), (3, .int v3), (4, .int v4), (5, .int v5), (6, .int v6)]), W p l e rm_Mo_isParted s m args below meth c s.heap [] 0 0 (MQ below (zSi y) args s 0 0 (fun _ => False)) (F0 m 16 ls []) := by
  intro n
  induction n with
  | zero => intro v5 v6 hf; cases hf
  | succ n ih =>
    intro v5 v6 hf ls hl
    have hf : Mo_isParted_b16 N (Mo_isParted_h16 N s0 v1 v2 v3 v4 n) s0 v1 v2 v3 v4 v5 v6 = some y := hf
    exact k_Mo_isParted_b16 C0 s0 v1 v2 v3 v4 v5 v6 (fun v5 v6 hf ls hl => ih v5 v6 hf ls hl) hP hf ls hl
set_option maxHeartbeats 4000000 in
set_option maxRecDepth 100000 in
theorem k_Mo_isParted_b0 {p : Program} {l : Launch} {e : Env} {s : State} {m : MethodId} {args : Array Value} {below : List Frame} {meth : Method} {c : Code} {dC : Nat → ClassId} {dI : Nat → Nat → Nat} {cy : Nat → ClassId} {o0 : Nat} {a0 : Nat → Nat} {N : Nat} {y : Int32} (C0 : zCx p s m args meth c cX11_isParted 7 (some .boolean) RX11 (dC, dI) cy) (s0 : zSt) (v1 : Int32) (v2 : Int32) (v3 : Int32) (hP : va_P (dC, dI) vwCl (wd_Mo_isParted cy o0 a0 (zI s0) (zL s0) (zA s0 16) (zA s0 17) (zA s0 19) (zA s0 21) (zA s0 39) (zA s0 40) (zA s0 41) (zA s0 42) (zA s0 43) (zA s0 44) (zA s0 45) (zA s0 46)) s.heap) (hf : Mo_isParted_b0 N s0 v1 v2 v3 = some y) (ls : Array Slot) (hl : lv_has ls 7 [(0, .ref o0), (1, .int v1), (2, .int v2), (3, .int v3)]) : W p l e rm_Mo_isParted s m args below meth c s.heap [] 0 0 (MQ below (zSi y) args s 0 0 (fun _ => False)) (F0 m 0 ls []) := by
  obtain ⟨hx, hb, hr, hml, hown, hT, hk, hK⟩ := id C0
  refine lv_aload_n hx hb dX11_isParted_0 rfl (lv_at hl 0 rfl) ?_
  obtain ⟨z1, hc2, hf⟩ := zbd_some hf
  refine zri (zV (As := []) hx hb hml hown hT hl.1 (c_Mo_beastSet o0 a0 s0 hc2) zY_Mo_beastSet tb_1303 (zpR hK hP [0, 4] rfl 0 11 rfl rfl rfl) rm_ok_Mo_isParted_Mo_beastSet rfl rfl (Nat.le_of_ble_eq_true rfl) dX11_isParted_1 ⟨Nat.zero_le _, Nat.zero_le _⟩) ?_
  refine lv_iload_n hx hb dX11_isParted_4 rfl (lv_at hl 1 rfl) ?_
  refine lv_iconst (v := (-1)) hx hb dX11_isParted_5 (by decide) ?_
  refine lv_ixor hx hb dX11_isParted_6 ?_
  refine lv_iand hx hb dX11_isParted_7 ?_
  refine lv_istore (lv' := [(4, .int (z1 &&& (v1 ^^^ (-1)))), (0, .ref o0), (1, .int v1), (2, .int v2), (3, .int v3)]) hx hb dX11_isParted_8 hl (by decide) rfl (fun ls hl => ?_)
  refine lv_iconst (v := 1) hx hb dX11_isParted_10 (by decide) ?_
  refine lv_istore (lv' := [(5, .int 1), (4, .int (z1 &&& (v1 ^^^ (-1)))), (0, .ref o0), (1, .int v1), (2, .int v2), (3, .int v3)]) hx hb dX11_isParted_11 hl (by decide) rfl (fun ls hl => ?_)
  refine lv_iconst (v := 0) hx hb dX11_isParted_13 (by decide) ?_
  refine lv_istore (lv' := [(6, .int 0), (5, .int 1), (4, .int (z1 &&& (v1 ^^^ (-1)))), (0, .ref o0), (1, .int v1), (2, .int v2), (3, .int v3)]) hx hb dX11_isParted_14 hl (by decide) rfl (fun ls hl => ?_)
  exact k_Mo_isParted_h16 C0 s0 v1 v2 v3 (z1 &&& (v1 ^^^ (-1)))  hP N 1 0 hf _ (lv_sub hl [3, 4, 5, 6, 2, 1, 0] rfl)
set_option maxHeartbeats 4000000 in
set_option maxRecDepth 100000 in
theorem c_Mo_isParted {l : Launch} {dC : Nat → ClassId} {dI : Nat → Nat → Nat} {cy : Nat → ClassId} {N : Nat} (o0 : Nat) (a0 : Nat → Nat) (s0 : zSt) (v1 : Int32) (v2 : Int32) (v3 : Int32) {y : Int32} (hf : Mo_isParted N s0 v1 v2 v3 = some y) : Met l yX11_isParted (.code yX11_isParted cX11_isParted 7 (some .boolean) :: zt) rm_Mo_isParted (va_Pc [.ref o0, .int v1, .int v2, .int v3] (zRd (dC, dI) cy (wd_Mo_isParted cy o0 a0 (zI s0) (zL s0) (zA s0 16) (zA s0 17) (zA s0 19) (zA s0 21) (zA s0 39) (zA s0 40) (zA s0 41) (zA s0 42) (zA s0 43) (zA s0 44) (zA s0 45) (zA s0 46)))) (zSi y) 0 0 (fun _ => False) :=
  zentR (by decide +kernel) (Nat.le_of_ble_eq_true rfl) (fun p e s m below meth c C0 hP ls hl => k_Mo_isParted_b0 C0 s0 v1 v2 v3 hP hf ls hl)
def wd_Mo_mixedOf (cy : Nat → ClassId) (o0 : Nat) (a0 : Nat → Nat) (g0 : Nat → Int32) (h0 : Nat → Int64) (x0_18 : Nat → Int32) (x0_21 : Nat → Int32) : va_W := [(o0, .inr (11, fs_Mo a0 g0 h0)), (a0 18, .inl (cy 0, 11, .inl x0_18)), (a0 21, .inl (cy 0, 9, .inl x0_21))]
def rm_Mo_mixedOf : Room := { frames := 1, cells := 0, slots := 0, locals := 40 }
set_option maxHeartbeats 4000000 in
set_option maxRecDepth 100000 in
theorem k_Mo_mixedOf_b94 {p : Program} {l : Launch} {e : Env} {s : State} {m : MethodId} {args : Array Value} {below : List Frame} {meth : Method} {c : Code} {dC : Nat → ClassId} {dI : Nat → Nat → Nat} {cy : Nat → ClassId} {o0 : Nat} {a0 : Nat → Nat} {N : Nat} {kh4 : Int32 → Int32 → Option (Int32)} {y : Int32} (C0 : zCx p s m args meth c cX11_mixedOf 7 (some .int) RX11 (dC, dI) cy) (s0 : zSt) (v1 : Int32) (v3 : Int32) (t0 : Int32) (t1 : Int32) (hk4 : ∀ (v2 : Int32) (v3 : Int32) (_ : kh4 v2 v3 = some y) (ls : Array Slot) (_ : lv_has ls 7 [(0, .ref o0), (1, .int v1), (2, .int v2), (3, .int v3)]), W p l e rm_Mo_mixedOf s m args below meth c s.heap [] 0 0 (MQ below (zSi y) args s 0 0 (fun _ => False)) (F0 m 4 ls [])) (hP : va_P (dC, dI) vwCl (wd_Mo_mixedOf cy o0 a0 (zI s0) (zL s0) (zA s0 18) (zA s0 21)) s.heap) (hf : Mo_mixedOf_b94 N kh4 s0 v1 v3 t0 t1 = some y) (ls : Array Slot) (hl : lv_has ls 7 [(0, .ref o0), (1, .int v1), (3, .int v3)]) : W p l e rm_Mo_mixedOf s m args below meth c s.heap [] 0 0 (MQ below (zSi y) args s 0 0 (fun _ => False)) (F0 m 94 ls [.int t1, .int t0]) := by
  obtain ⟨hx, hb, hr, hml, hown, hT, hk, hK⟩ := id C0
  refine lv_iadd hx hb dX11_mixedOf_94 ?_
  refine lv_istore_n (lv' := [(2, .int (t0 + t1)), (0, .ref o0), (1, .int v1), (3, .int v3)]) hx hb dX11_mixedOf_95 rfl hl (by decide) rfl (fun ls hl => ?_)
  refine lv_iinc (v := v3 + 1) (lv' := [(3, .int (v3 + 1)), (2, .int (t0 + t1)), (0, .ref o0), (1, .int v1)]) hx hb dX11_mixedOf_96 hl (k := 3) rfl rfl (by decide) rfl (fun ls hl => ?_)
  refine lv_goto (tgt := 4) hx hb dX11_mixedOf_99 (by decide) ?_
  exact hk4 (t0 + t1) (v3 + 1) hf _ (lv_sub hl [2, 3, 1, 0] rfl)
set_option maxHeartbeats 4000000 in
set_option maxRecDepth 100000 in
theorem k_Mo_mixedOf_b73 {p : Program} {l : Launch} {e : Env} {s : State} {m : MethodId} {args : Array Value} {below : List Frame} {meth : Method} {c : Code} {dC : Nat → ClassId} {dI : Nat → Nat → Nat} {cy : Nat → ClassId} {o0 : Nat} {a0 : Nat → Nat} {N : Nat} {kh4 : Int32 → Int32 → Option (Int32)} {kh21 : Int32 → Int32 → Int32 → Option (Int32)} {y : Int32} (C0 : zCx p s m args meth c cX11_mixedOf 7 (some .int) RX11 (dC, dI) cy) (s0 : zSt) (v1 : Int32) (v2 : Int32) (v3 : Int32) (v4 : Int32) (v5 : Int32) (v6 : Int32) (hk4 : ∀ (v2 : Int32) (v3 : Int32) (_ : kh4 v2 v3 = some y) (ls : Array Slot) (_ : lv_has ls 7 [(0, .ref o0), (1, .int v1), (2, .int v2), (3, .int v3)]), W p l e rm_Mo_mixedOf s m args below meth c s.heap [] 0 0 (MQ below (zSi y) args s 0 0 (fun _ => False)) (F0 m 4 ls [])) (hk21 : ∀ (v4 : Int32) (v5 : Int32) (v6 : Int32) (_ : kh21 v4 v5 v6 = some y) (ls : Array Slot) (_ : lv_has ls 7 [(0, .ref o0), (1, .int v1), (2, .int v2), (3, .int v3), (4, .int v4), (5, .int v5), (6, .int v6)]), W p l e rm_Mo_mixedOf s m args below meth c s.heap [] 0 0 (MQ below (zSi y) args s 0 0 (fun _ => False)) (F0 m 21 ls [])) (hP : va_P (dC, dI) vwCl (wd_Mo_mixedOf cy o0 a0 (zI s0) (zL s0) (zA s0 18) (zA s0 21)) s.heap) (hf : Mo_mixedOf_b73 N kh4 kh21 s0 v1 v2 v3 v4 v5 v6 = some y) (ls : Array Slot) (hl : lv_has ls 7 [(0, .ref o0), (1, .int v1), (2, .int v2), (3, .int v3), (4, .int v4), (5, .int v5), (6, .int v6)]) : W p l e rm_Mo_mixedOf s m args below meth c s.heap [] 0 0 (MQ below (zSi y) args s 0 0 (fun _ => False)) (F0 m 73 ls []) := by
  obtain ⟨hx, hb, hr, hml, hown, hT, hk, hK⟩ := id C0
  refine lv_iinc (v := v6 + 1) (lv' := [(6, .int (v6 + 1)), (0, .ref o0), (1, .int v1), (2, .int v2), (3, .int v3), (4, .int v4), (5, .int v5)]) hx hb dX11_mixedOf_73 hl (k := 6) rfl rfl (by decide) rfl (fun ls hl => ?_)
  refine lv_goto (tgt := 21) hx hb dX11_mixedOf_76 (by decide) ?_
  exact hk21 v4 v5 (v6 + 1) hf _ (lv_sub hl [1, 2, 3, 4, 5, 6, 0] rfl)
set_option maxHeartbeats 4000000 in
set_option maxRecDepth 100000 in
theorem k_Mo_mixedOf_b21 {p : Program} {l : Launch} {e : Env} {s : State} {m : MethodId} {args : Array Value} {below : List Frame} {meth : Method} {c : Code} {dC : Nat → ClassId} {dI : Nat → Nat → Nat} {cy : Nat → ClassId} {o0 : Nat} {a0 : Nat → Nat} {N : Nat} {kh4 : Int32 → Int32 → Option (Int32)} {kh21 : Int32 → Int32 → Int32 → Option (Int32)} {y : Int32} (C0 : zCx p s m args meth c cX11_mixedOf 7 (some .int) RX11 (dC, dI) cy) (s0 : zSt) (v1 : Int32) (v2 : Int32) (v3 : Int32) (v4 : Int32) (v5 : Int32) (v6 : Int32) (hk4 : ∀ (v2 : Int32) (v3 : Int32) (_ : kh4 v2 v3 = some y) (ls : Array Slot) (_ : lv_has ls 7 [(0, .ref o0), (1, .int v1), (2, .int v2), (3, .int v3)]), W p l e rm_Mo_mixedOf s m args below meth c s.heap [] 0 0 (MQ below (zSi y) args s 0 0 (fun _ => False)) (F0 m 4 ls [])) (hk21 : ∀ (v4 : Int32) (v5 : Int32) (v6 : Int32) (_ : kh21 v4 v5 v6 = some y) (ls : Array Slot) (_ : lv_has ls 7 [(0, .ref o0), (1, .int v1), (2, .int v2), (3, .int v3), (4, .int v4), (5, .int v5), (6, .int v6)]), W p l e rm_Mo_mixedOf s m args below meth c s.heap [] 0 0 (MQ below (zSi y) args s 0 0 (fun _ => False)) (F0 m 21 ls [])) (hP : va_P (dC, dI) vwCl (wd_Mo_mixedOf cy o0 a0 (zI s0) (zL s0) (zA s0 18) (zA s0 21)) s.heap) (hf : Mo_mixedOf_b21 N kh4 kh21 s0 v1 v2 v3 v4 v5 v6 = some y) (ls : Array Slot) (hl : lv_has ls 7 [(0, .ref o0), (1, .int v1), (2, .int v2), (3, .int v3), (4, .int v4), (5, .int v5), (6, .int v6)]) : W p l e rm_Mo_mixedOf s m args below meth c s.heap [] 0 0 (MQ below (zSi y) args s 0 0 (fun _ => False)) (F0 m 21 ls []) := by
  obtain ⟨hx, hb, hr, hml, hown, hT, hk, hK⟩ := id C0
  refine lv_iload hx hb dX11_mixedOf_21 (lv_at hl 6 rfl) ?_
  refine lv_aload_n hx hb dX11_mixedOf_23 rfl (lv_at hl 0 rfl) ?_
  refine zget (v := .int (zI s0 30)) hx hb hown hT hK hP inX11 rfl smX11 0 rfl 30 (by decide) tb_1032 rfl dX11_mixedOf_24 ?_
  refine lv_icmp_ge (tgt := 79) hx hb dX11_mixedOf_27 (by decide) (fun hb_1 => ?_) (fun hb_1 => ?_)
  · have hf := zif_t hb_1 hf
    refine lv_iload_n hx hb dX11_mixedOf_79 rfl (lv_at hl 2 rfl) ?_
    refine lv_iload hx hb dX11_mixedOf_80 (lv_at hl 4 rfl) ?_
    refine lv_iload hx hb dX11_mixedOf_82 (lv_at hl 5 rfl) ?_
    refine lv_icmp_ge (tgt := 92) hx hb dX11_mixedOf_84 (by decide) (fun hb_2 => ?_) (fun hb_2 => ?_)
    · have hf := zif_t hb_2 hf
      refine lv_iload hx hb dX11_mixedOf_92 (lv_at hl 5 rfl) ?_
      exact k_Mo_mixedOf_b94 C0 s0 v1 v3 v2 v5 hk4 hP hf _ (lv_sub hl [0, 1, 3] rfl)
    · have hf := zif_f hb_2 hf
      refine lv_iload hx hb dX11_mixedOf_87 (lv_at hl 4 rfl) ?_
      refine lv_goto (tgt := 94) hx hb dX11_mixedOf_89 (by decide) ?_
      exact k_Mo_mixedOf_b94 C0 s0 v1 v3 v2 v4 hk4 hP hf _ (lv_sub hl [0, 1, 3] rfl)
  · have hf := zif_f hb_1 hf
    refine lv_aload_n hx hb dX11_mixedOf_30 rfl (lv_at hl 0 rfl) ?_
    refine zget (v := .ref (a0 18)) hx hb hown hT hK hP inX11 rfl smX11 0 rfl 18 (by decide) tb_1020 rfl dX11_mixedOf_31 ?_
    refine lv_aload_n hx hb dX11_mixedOf_34 rfl (lv_at hl 0 rfl) ?_
    refine zget (v := .ref (a0 21)) hx hb hown hT hK hP inX11 rfl smX11 0 rfl 21 (by decide) tb_1023 rfl dX11_mixedOf_35 ?_
    refine lv_iload hx hb dX11_mixedOf_38 (lv_at hl 6 rfl) ?_
    obtain ⟨hi3, hf⟩ := zck_some hf
    refine va_iald hx hb hK.1 hP 2 0 rfl rfl hi3 dX11_mixedOf_40 ?_
    obtain ⟨hi4, hf⟩ := zck_some hf
    refine va_iald hx hb hK.1 hP 1 0 rfl rfl hi4 dX11_mixedOf_41 ?_
    refine lv_iload_n hx hb dX11_mixedOf_42 rfl (lv_at hl 3 rfl) ?_
    refine lv_icmp_eq (tgt := 49) hx hb dX11_mixedOf_43 (by decide) (fun hb_5 => ?_) (fun hb_5 => ?_)
    · have hf := zif_t hb_5 hf
      refine lv_iload_n hx hb dX11_mixedOf_49 rfl (lv_at hl 1 rfl) ?_
      refine lv_aload_n hx hb dX11_mixedOf_50 rfl (lv_at hl 0 rfl) ?_
      refine zget (v := .ref (a0 21)) hx hb hown hT hK hP inX11 rfl smX11 0 rfl 21 (by decide) tb_1023 rfl dX11_mixedOf_51 ?_
      refine lv_iload hx hb dX11_mixedOf_54 (lv_at hl 6 rfl) ?_
      obtain ⟨hi6, hf⟩ := zck_some hf
      refine va_iald hx hb hK.1 hP 2 0 rfl rfl hi6 dX11_mixedOf_56 ?_
      refine lv_ishr hx hb dX11_mixedOf_57 ?_
      refine lv_iconst (v := 1) hx hb dX11_mixedOf_58 (by decide) ?_
      refine lv_iand hx hb dX11_mixedOf_59 ?_
      refine lv_iconst (v := 1) hx hb dX11_mixedOf_60 (by decide) ?_
      refine lv_icmp_ne (tgt := 70) hx hb dX11_mixedOf_61 (by decide) (fun hb_7 => ?_) (fun hb_7 => ?_)
      · have hf := zif_f hb_7 hf
        refine lv_iinc (v := v5 + 1) (lv' := [(5, .int (v5 + 1)), (0, .ref o0), (1, .int v1), (2, .int v2), (3, .int v3), (4, .int v4), (6, .int v6)]) hx hb dX11_mixedOf_70 hl (k := 5) rfl rfl (by decide) rfl (fun ls hl => ?_)
        exact k_Mo_mixedOf_b73 C0 s0 v1 v2 v3 v4 (v5 + 1) v6 hk4 hk21 hP hf _ (lv_sub hl [1, 2, 3, 4, 5, 0, 6] rfl)
      · have hf := zif_t hb_7 hf
        refine lv_iinc (v := v4 + 1) (lv' := [(4, .int (v4 + 1)), (0, .ref o0), (1, .int v1), (2, .int v2), (3, .int v3), (5, .int v5), (6, .int v6)]) hx hb dX11_mixedOf_64 hl (k := 4) rfl rfl (by decide) rfl (fun ls hl => ?_)
        refine lv_goto (tgt := 73) hx hb dX11_mixedOf_67 (by decide) ?_
        exact k_Mo_mixedOf_b73 C0 s0 v1 v2 v3 (v4 + 1) v5 v6 hk4 hk21 hP hf _ (lv_sub hl [1, 2, 3, 4, 0, 5, 6] rfl)
    · have hf := zif_f hb_5 hf
      refine lv_goto (tgt := 73) hx hb dX11_mixedOf_46 (by decide) ?_
      exact k_Mo_mixedOf_b73 C0 s0 v1 v2 v3 v4 v5 v6 hk4 hk21 hP hf _ (lv_sub hl [0, 1, 2, 3, 4, 5, 6] rfl)
set_option maxHeartbeats 4000000 in
set_option maxRecDepth 100000 in
theorem k_Mo_mixedOf_h21 {p : Program} {l : Launch} {e : Env} {s : State} {m : MethodId} {args : Array Value} {below : List Frame} {meth : Method} {c : Code} {dC : Nat → ClassId} {dI : Nat → Nat → Nat} {cy : Nat → ClassId} {o0 : Nat} {a0 : Nat → Nat} {N : Nat} {kh4 : Int32 → Int32 → Option (Int32)} {y : Int32} (C0 : zCx p s m args meth c cX11_mixedOf 7 (some .int) RX11 (dC, dI) cy) (s0 : zSt) (v1 : Int32) (v2 : Int32) (v3 : Int32) (hk4 : ∀ (v2 : Int32) (v3 : Int32) (_ : kh4 v2 v3 = some y) (ls : Array Slot) (_ : lv_has ls 7 [(0, .ref o0), (1, .int v1), (2, .int v2), (3, .int v3)]), W p l e rm_Mo_mixedOf s m args below meth c s.heap [] 0 0 (MQ below (zSi y) args s 0 0 (fun _ => False)) (F0 m 4 ls [])) (hP : va_P (dC, dI) vwCl (wd_Mo_mixedOf cy o0 a0 (zI s0) (zL s0) (zA s0 18) (zA s0 21)) s.heap) : ∀ (n : Nat) (v4 : Int32) (v5 : Int32) (v6 : Int32) (hf : Mo_mixedOf_h21 N kh4 s0 v1 v2 v3 n v4 v5 v6 = some y) (ls : Array Slot) (hl : lv_has ls 7 [(0, .ref o0), (1, .int v1), (2, .int v2), (3, .int v3), (4, .int v4), (5, .int v5), (6, .int v6)]), W p l e rm_Mo_mixedOf s m args below meth c s.heap [] 0 0 (MQ below (zSi y) args s 0 0 (fun _ => False)) (F0 m 21 ls []) := by
  intro n
  induction n with
  | zero => intro v4 v5 v6 hf; cases hf
  | succ n ih =>
    intro v4 v5 v6 hf ls hl
    have hf : Mo_mixedOf_b21 N kh4 (Mo_mixedOf_h21 N kh4 s0 v1 v2 v3 n) s0 v1 v2 v3 v4 v5 v6 = some y := hf
    exact k_Mo_mixedOf_b21 C0 s0 v1 v2 v3 v4 v5 v6 hk4 (fun v4 v5 v6 hf ls hl => ih v4 v5 v6 hf ls hl) hP hf ls hl
set_option maxHeartbeats 4000000 in
set_option maxRecDepth 100000 in
theorem k_Mo_mixedOf_b4 {p : Program} {l : Launch} {e : Env} {s : State} {m : MethodId} {args : Array Value} {below : List Frame} {meth : Method} {c : Code} {dC : Nat → ClassId} {dI : Nat → Nat → Nat} {cy : Nat → ClassId} {o0 : Nat} {a0 : Nat → Nat} {N : Nat} {kh4 : Int32 → Int32 → Option (Int32)} {y : Int32} (C0 : zCx p s m args meth c cX11_mixedOf 7 (some .int) RX11 (dC, dI) cy) (s0 : zSt) (v1 : Int32) (v2 : Int32) (v3 : Int32) (hk4 : ∀ (v2 : Int32) (v3 : Int32) (_ : kh4 v2 v3 = some y) (ls : Array Slot) (_ : lv_has ls 7 [(0, .ref o0), (1, .int v1), (2, .int v2), (3, .int v3)]), W p l e rm_Mo_mixedOf s m args below meth c s.heap [] 0 0 (MQ below (zSi y) args s 0 0 (fun _ => False)) (F0 m 4 ls [])) (hP : va_P (dC, dI) vwCl (wd_Mo_mixedOf cy o0 a0 (zI s0) (zL s0) (zA s0 18) (zA s0 21)) s.heap) (hf : Mo_mixedOf_b4 N kh4 s0 v1 v2 v3 = some y) (ls : Array Slot) (hl : lv_has ls 7 [(0, .ref o0), (1, .int v1), (2, .int v2), (3, .int v3)]) : W p l e rm_Mo_mixedOf s m args below meth c s.heap [] 0 0 (MQ below (zSi y) args s 0 0 (fun _ => False)) (F0 m 4 ls []) := by
  obtain ⟨hx, hb, hr, hml, hown, hT, hk, hK⟩ := id C0
  refine lv_iload_n hx hb dX11_mixedOf_4 rfl (lv_at hl 3 rfl) ?_
  refine lv_aload_n hx hb dX11_mixedOf_5 rfl (lv_at hl 0 rfl) ?_
  refine zget (v := .int (zI s0 28)) hx hb hown hT hK hP inX11 rfl smX11 0 rfl 28 (by decide) tb_1030 rfl dX11_mixedOf_6 ?_
  refine lv_icmp_ge (tgt := 102) hx hb dX11_mixedOf_9 (by decide) (fun hb_1 => ?_) (fun hb_1 => ?_)
  · have hf := zif_t hb_1 hf
    refine lv_iload_n hx hb dX11_mixedOf_102 rfl (lv_at hl 2 rfl) ?_
    cases hf
    exact zeri hx hb hr hk dX11_mixedOf_103
  · have hf := zif_f hb_1 hf
    refine lv_iconst (v := 0) hx hb dX11_mixedOf_12 (by decide) ?_
    refine lv_istore (lv' := [(4, .int 0), (0, .ref o0), (1, .int v1), (2, .int v2), (3, .int v3)]) hx hb dX11_mixedOf_13 hl (by decide) rfl (fun ls hl => ?_)
    refine lv_iconst (v := 0) hx hb dX11_mixedOf_15 (by decide) ?_
    refine lv_istore (lv' := [(5, .int 0), (4, .int 0), (0, .ref o0), (1, .int v1), (2, .int v2), (3, .int v3)]) hx hb dX11_mixedOf_16 hl (by decide) rfl (fun ls hl => ?_)
    refine lv_iconst (v := 0) hx hb dX11_mixedOf_18 (by decide) ?_
    refine lv_istore (lv' := [(6, .int 0), (5, .int 0), (4, .int 0), (0, .ref o0), (1, .int v1), (2, .int v2), (3, .int v3)]) hx hb dX11_mixedOf_19 hl (by decide) rfl (fun ls hl => ?_)
    exact k_Mo_mixedOf_h21 C0 s0 v1 v2 v3 hk4 hP N 0 0 0 hf _ (lv_sub hl [3, 4, 5, 6, 2, 1, 0] rfl)
set_option maxHeartbeats 4000000 in
set_option maxRecDepth 100000 in
theorem k_Mo_mixedOf_h4 {p : Program} {l : Launch} {e : Env} {s : State} {m : MethodId} {args : Array Value} {below : List Frame} {meth : Method} {c : Code} {dC : Nat → ClassId} {dI : Nat → Nat → Nat} {cy : Nat → ClassId} {o0 : Nat} {a0 : Nat → Nat} {N : Nat} {y : Int32} (C0 : zCx p s m args meth c cX11_mixedOf 7 (some .int) RX11 (dC, dI) cy) (s0 : zSt) (v1 : Int32) (hP : va_P (dC, dI) vwCl (wd_Mo_mixedOf cy o0 a0 (zI s0) (zL s0) (zA s0 18) (zA s0 21)) s.heap) : ∀ (n : Nat) (v2 : Int32) (v3 : Int32) (hf : Mo_mixedOf_h4 N s0 v1 n v2 v3 = some y) (ls : Array Slot) (hl : lv_has ls 7 [(0, .ref o0), (1, .int v1), (2, .int v2), (3, .int v3)]), W p l e rm_Mo_mixedOf s m args below meth c s.heap [] 0 0 (MQ below (zSi y) args s 0 0 (fun _ => False)) (F0 m 4 ls []) := by
  intro n
  induction n with
  | zero => intro v2 v3 hf; cases hf
  | succ n ih =>
    intro v2 v3 hf ls hl
    have hf : Mo_mixedOf_b4 N (Mo_mixedOf_h4 N s0 v1 n) s0 v1 v2 v3 = some y := hf
    exact k_Mo_mixedOf_b4 C0 s0 v1 v2 v3 (fun v2 v3 hf ls hl => ih v2 v3 hf ls hl) hP hf ls hl
set_option maxHeartbeats 4000000 in
set_option maxRecDepth 100000 in
theorem k_Mo_mixedOf_b0 {p : Program} {l : Launch} {e : Env} {s : State} {m : MethodId} {args : Array Value} {below : List Frame} {meth : Method} {c : Code} {dC : Nat → ClassId} {dI : Nat → Nat → Nat} {cy : Nat → ClassId} {o0 : Nat} {a0 : Nat → Nat} {N : Nat} {y : Int32} (C0 : zCx p s m args meth c cX11_mixedOf 7 (some .int) RX11 (dC, dI) cy) (s0 : zSt) (v1 : Int32) (hP : va_P (dC, dI) vwCl (wd_Mo_mixedOf cy o0 a0 (zI s0) (zL s0) (zA s0 18) (zA s0 21)) s.heap) (hf : Mo_mixedOf_b0 N s0 v1 = some y) (ls : Array Slot) (hl : lv_has ls 7 [(0, .ref o0), (1, .int v1)]) : W p l e rm_Mo_mixedOf s m args below meth c s.heap [] 0 0 (MQ below (zSi y) args s 0 0 (fun _ => False)) (F0 m 0 ls []) := by
  obtain ⟨hx, hb, hr, hml, hown, hT, hk, hK⟩ := id C0
  refine lv_iconst (v := 0) hx hb dX11_mixedOf_0 (by decide) ?_
  refine lv_istore_n (lv' := [(2, .int 0), (0, .ref o0), (1, .int v1)]) hx hb dX11_mixedOf_1 rfl hl (by decide) rfl (fun ls hl => ?_)
  refine lv_iconst (v := 0) hx hb dX11_mixedOf_2 (by decide) ?_
  refine lv_istore_n (lv' := [(3, .int 0), (2, .int 0), (0, .ref o0), (1, .int v1)]) hx hb dX11_mixedOf_3 rfl hl (by decide) rfl (fun ls hl => ?_)
  exact k_Mo_mixedOf_h4 C0 s0 v1  hP N 0 0 hf _ (lv_sub hl [2, 3, 1, 0] rfl)
set_option maxHeartbeats 4000000 in
set_option maxRecDepth 100000 in
theorem c_Mo_mixedOf {l : Launch} {dC : Nat → ClassId} {dI : Nat → Nat → Nat} {cy : Nat → ClassId} {N : Nat} (o0 : Nat) (a0 : Nat → Nat) (s0 : zSt) (v1 : Int32) {y : Int32} (hf : Mo_mixedOf N s0 v1 = some y) : Met l yX11_mixedOf (.code yX11_mixedOf cX11_mixedOf 7 (some .int) :: zt) rm_Mo_mixedOf (va_Pc [.ref o0, .int v1] (zRd (dC, dI) cy (wd_Mo_mixedOf cy o0 a0 (zI s0) (zL s0) (zA s0 18) (zA s0 21)))) (zSi y) 0 0 (fun _ => False) :=
  zentR (by decide +kernel) (Nat.le_of_ble_eq_true rfl) (fun p e s m below meth c C0 hP ls hl => k_Mo_mixedOf_b0 C0 s0 v1 hP hf ls hl)
def wd_Mo_parted (cy : Nat → ClassId) (o0 : Nat) (a0 : Nat → Nat) (g0 : Nat → Int32) (h0 : Nat → Int64) (x0_16 : Nat → Int32) (x0_17 : Nat → Int32) (x0_18 : Nat → Int32) (x0_19 : Nat → Int32) (x0_21 : Nat → Int32) (x0_39 : Nat → Int32) (x0_40 : Nat → Int32) (x0_41 : Nat → Int32) (x0_42 : Nat → Int32) (x0_43 : Nat → Int32) (x0_44 : Nat → Int32) (x0_45 : Nat → Int32) (x0_46 : Nat → Int32) : va_W := [(o0, .inr (11, fs_Mo a0 g0 h0)), (a0 16, .inl (cy 0, 11, .inl x0_16)), (a0 17, .inl (cy 0, 11, .inl x0_17)), (a0 18, .inl (cy 0, 11, .inl x0_18)), (a0 19, .inl (cy 0, 4, .inl x0_19)), (a0 21, .inl (cy 0, 9, .inl x0_21)), (a0 39, .inl (cy 0, 40, .inl x0_39)), (a0 40, .inl (cy 0, 40, .inl x0_40)), (a0 41, .inl (cy 0, 40, .inl x0_41)), (a0 42, .inl (cy 0, 40, .inl x0_42)), (a0 43, .inl (cy 0, 40, .inl x0_43)), (a0 44, .inl (cy 0, 40, .inl x0_44)), (a0 45, .inl (cy 0, 40, .inl x0_45)), (a0 46, .inl (cy 0, 40, .inl x0_46))]
def rm_Mo_parted : Room := { frames := 5, cells := 0, slots := 0, locals := 144 }
theorem rm_ok_Mo_parted_Mo_beastSet : rm_Mo_beastSet.cells = 0 ∧ rm_Mo_beastSet.slots = 0 ∧ rm_Mo_beastSet.frames + 1 ≤ rm_Mo_parted.frames ∧ 8 + (3 + 11) + rm_Mo_beastSet.locals ≤ rm_Mo_parted.locals := by decide
theorem rm_ok_Mo_parted_Mo_isIn : rm_Mo_isIn.cells = 0 ∧ rm_Mo_isIn.slots = 0 ∧ rm_Mo_isIn.frames + 1 ≤ rm_Mo_parted.frames ∧ 8 + (3 + 11) + rm_Mo_isIn.locals ≤ rm_Mo_parted.locals := by decide
theorem rm_ok_Mo_parted_Mo_isParted : rm_Mo_isParted.cells = 0 ∧ rm_Mo_isParted.slots = 0 ∧ rm_Mo_isParted.frames + 1 ≤ rm_Mo_parted.frames ∧ 8 + (7 + 11) + rm_Mo_isParted.locals ≤ rm_Mo_parted.locals := by decide
theorem rm_ok_Mo_parted_Mo_isWind : rm_Mo_isWind.cells = 0 ∧ rm_Mo_isWind.slots = 0 ∧ rm_Mo_isWind.frames + 1 ≤ rm_Mo_parted.frames ∧ 8 + (1 + 11) + rm_Mo_isWind.locals ≤ rm_Mo_parted.locals := by decide
theorem rm_ok_Mo_parted_Mo_mixedOf : rm_Mo_mixedOf.cells = 0 ∧ rm_Mo_mixedOf.slots = 0 ∧ rm_Mo_mixedOf.frames + 1 ≤ rm_Mo_parted.frames ∧ 8 + (7 + 11) + rm_Mo_mixedOf.locals ≤ rm_Mo_parted.locals := by decide
set_option maxHeartbeats 4000000 in
set_option maxRecDepth 100000 in
theorem k_Mo_parted_b130 {p : Program} {l : Launch} {e : Env} {s : State} {m : MethodId} {args : Array Value} {below : List Frame} {meth : Method} {c : Code} {dC : Nat → ClassId} {dI : Nat → Nat → Nat} {cy : Nat → ClassId} {o0 : Nat} {a0 : Nat → Nat} {N : Nat} {kh51 : Int32 → Int32 → Int32 → Int32 → Int32 → Int32 → Option (Int32)} {y : Int32} (C0 : zCx p s m args meth c cX11_parted 12 (some .int) RX11 (dC, dI) cy) (s0 : zSt) (v1 : Int32) (v2 : Int32) (v3 : Int32) (v4 : Int32) (v5 : Int32) (v6 : Int32) (v7 : Int32) (v8 : Int32) (v9 : Int32) (v10 : Int32) (hk51 : ∀ (v5 : Int32) (v6 : Int32) (v7 : Int32) (v8 : Int32) (v9 : Int32) (v10 : Int32) (_ : kh51 v5 v6 v7 v8 v9 v10 = some y) (ls : Array Slot) (_ : lv_has ls 12 [(0, .ref o0), (1, .int v1), (2, .int v2), (3, .int v3), (4, .int v4), (5, .int v5), (6, .int v6), (7, .int v7), (8, .int v8), (9, .int v9), (10, .int v10)]), W p l e rm_Mo_parted s m args below meth c s.heap [] 0 0 (MQ below (zSi y) args s 0 0 (fun _ => False)) (F0 m 51 ls [])) (hP : va_P (dC, dI) vwCl (wd_Mo_parted cy o0 a0 (zI s0) (zL s0) (zA s0 16) (zA s0 17) (zA s0 18) (zA s0 19) (zA s0 21) (zA s0 39) (zA s0 40) (zA s0 41) (zA s0 42) (zA s0 43) (zA s0 44) (zA s0 45) (zA s0 46)) s.heap) (hf : Mo_parted_b130 N kh51 s0 v1 v2 v3 v4 v5 v6 v7 v8 v9 v10 = some y) (ls : Array Slot) (hl : lv_has ls 12 [(0, .ref o0), (1, .int v1), (2, .int v2), (3, .int v3), (4, .int v4), (5, .int v5), (6, .int v6), (7, .int v7), (8, .int v8), (9, .int v9), (10, .int v10)]) : W p l e rm_Mo_parted s m args below meth c s.heap [] 0 0 (MQ below (zSi y) args s 0 0 (fun _ => False)) (F0 m 130 ls []) := by
  obtain ⟨hx, hb, hr, hml, hown, hT, hk, hK⟩ := id C0
  refine lv_iinc (v := v10 + 1) (lv' := [(10, .int (v10 + 1)), (0, .ref o0), (1, .int v1), (2, .int v2), (3, .int v3), (4, .int v4), (5, .int v5), (6, .int v6), (7, .int v7), (8, .int v8), (9, .int v9)]) hx hb dX11_parted_130 hl (k := 10) rfl rfl (by decide) rfl (fun ls hl => ?_)
  refine lv_goto (tgt := 51) hx hb dX11_parted_133 (by decide) ?_
  exact hk51 v5 v6 v7 v8 v9 (v10 + 1) hf _ (lv_sub hl [1, 2, 3, 4, 5, 6, 7, 8, 9, 10, 0] rfl)
set_option maxHeartbeats 4000000 in
set_option maxRecDepth 100000 in
theorem k_Mo_parted_b122 {p : Program} {l : Launch} {e : Env} {s : State} {m : MethodId} {args : Array Value} {below : List Frame} {meth : Method} {c : Code} {dC : Nat → ClassId} {dI : Nat → Nat → Nat} {cy : Nat → ClassId} {o0 : Nat} {a0 : Nat → Nat} {N : Nat} {kh51 : Int32 → Int32 → Int32 → Int32 → Int32 → Int32 → Option (Int32)} {y : Int32} (C0 : zCx p s m args meth c cX11_parted 12 (some .int) RX11 (dC, dI) cy) (s0 : zSt) (v1 : Int32) (v2 : Int32) (v3 : Int32) (v4 : Int32) (v5 : Int32) (v6 : Int32) (v7 : Int32) (v10 : Int32) (v11 : Int32) (hk51 : ∀ (v5 : Int32) (v6 : Int32) (v7 : Int32) (v8 : Int32) (v9 : Int32) (v10 : Int32) (_ : kh51 v5 v6 v7 v8 v9 v10 = some y) (ls : Array Slot) (_ : lv_has ls 12 [(0, .ref o0), (1, .int v1), (2, .int v2), (3, .int v3), (4, .int v4), (5, .int v5), (6, .int v6), (7, .int v7), (8, .int v8), (9, .int v9), (10, .int v10)]), W p l e rm_Mo_parted s m args below meth c s.heap [] 0 0 (MQ below (zSi y) args s 0 0 (fun _ => False)) (F0 m 51 ls [])) (hP : va_P (dC, dI) vwCl (wd_Mo_parted cy o0 a0 (zI s0) (zL s0) (zA s0 16) (zA s0 17) (zA s0 18) (zA s0 19) (zA s0 21) (zA s0 39) (zA s0 40) (zA s0 41) (zA s0 42) (zA s0 43) (zA s0 44) (zA s0 45) (zA s0 46)) s.heap) (hf : Mo_parted_b122 N kh51 s0 v1 v2 v3 v4 v5 v6 v7 v10 v11 = some y) (ls : Array Slot) (hl : lv_has ls 12 [(0, .ref o0), (1, .int v1), (2, .int v2), (3, .int v3), (4, .int v4), (5, .int v5), (6, .int v6), (7, .int v7), (10, .int v10), (11, .int v11)]) : W p l e rm_Mo_parted s m args below meth c s.heap [] 0 0 (MQ below (zSi y) args s 0 0 (fun _ => False)) (F0 m 122 ls []) := by
  obtain ⟨hx, hb, hr, hml, hown, hT, hk, hK⟩ := id C0
  refine lv_iload hx hb dX11_parted_122 (lv_at hl 8 rfl) ?_
  refine lv_istore (lv' := [(8, .int v10), (0, .ref o0), (1, .int v1), (2, .int v2), (3, .int v3), (4, .int v4), (5, .int v5), (6, .int v6), (7, .int v7), (10, .int v10), (11, .int v11)]) hx hb dX11_parted_124 hl (by decide) rfl (fun ls hl => ?_)
  refine lv_iload hx hb dX11_parted_126 (lv_at hl 10 rfl) ?_
  refine lv_istore (lv' := [(9, .int v11), (8, .int v10), (0, .ref o0), (1, .int v1), (2, .int v2), (3, .int v3), (4, .int v4), (5, .int v5), (6, .int v6), (7, .int v7), (10, .int v10), (11, .int v11)]) hx hb dX11_parted_128 hl (by decide) rfl (fun ls hl => ?_)
  exact k_Mo_parted_b130 C0 s0 v1 v2 v3 v4 v5 v6 v7 v10 v11 v10 hk51 hP hf _ (lv_sub hl [2, 3, 4, 5, 6, 7, 8, 9, 1, 0, 10] rfl)
set_option maxHeartbeats 4000000 in
set_option maxRecDepth 100000 in
theorem k_Mo_parted_b51 {p : Program} {l : Launch} {e : Env} {s : State} {m : MethodId} {args : Array Value} {below : List Frame} {meth : Method} {c : Code} {dC : Nat → ClassId} {dI : Nat → Nat → Nat} {cy : Nat → ClassId} {o0 : Nat} {a0 : Nat → Nat} {N : Nat} {kh51 : Int32 → Int32 → Int32 → Int32 → Int32 → Int32 → Option (Int32)} {y : Int32} (C0 : zCx p s m args meth c cX11_parted 12 (some .int) RX11 (dC, dI) cy) (s0 : zSt) (v1 : Int32) (v2 : Int32) (v3 : Int32) (v4 : Int32) (v5 : Int32) (v6 : Int32) (v7 : Int32) (v8 : Int32) (v9 : Int32) (v10 : Int32) (hk51 : ∀ (v5 : Int32) (v6 : Int32) (v7 : Int32) (v8 : Int32) (v9 : Int32) (v10 : Int32) (_ : kh51 v5 v6 v7 v8 v9 v10 = some y) (ls : Array Slot) (_ : lv_has ls 12 [(0, .ref o0), (1, .int v1), (2, .int v2), (3, .int v3), (4, .int v4), (5, .int v5), (6, .int v6), (7, .int v7), (8, .int v8), (9, .int v9), (10, .int v10)]), W p l e rm_Mo_parted s m args below meth c s.heap [] 0 0 (MQ below (zSi y) args s 0 0 (fun _ => False)) (F0 m 51 ls [])) (hP : va_P (dC, dI) vwCl (wd_Mo_parted cy o0 a0 (zI s0) (zL s0) (zA s0 16) (zA s0 17) (zA s0 18) (zA s0 19) (zA s0 21) (zA s0 39) (zA s0 40) (zA s0 41) (zA s0 42) (zA s0 43) (zA s0 44) (zA s0 45) (zA s0 46)) s.heap) (hf : Mo_parted_b51 N kh51 s0 v1 v2 v3 v4 v5 v6 v7 v8 v9 v10 = some y) (ls : Array Slot) (hl : lv_has ls 12 [(0, .ref o0), (1, .int v1), (2, .int v2), (3, .int v3), (4, .int v4), (5, .int v5), (6, .int v6), (7, .int v7), (8, .int v8), (9, .int v9), (10, .int v10)]) : W p l e rm_Mo_parted s m args below meth c s.heap [] 0 0 (MQ below (zSi y) args s 0 0 (fun _ => False)) (F0 m 51 ls []) := by
  obtain ⟨hx, hb, hr, hml, hown, hT, hk, hK⟩ := id C0
  refine lv_iload hx hb dX11_parted_51 (lv_at hl 10 rfl) ?_
  refine lv_iload hx hb dX11_parted_53 (lv_at hl 4 rfl) ?_
  refine lv_icmp_gt (tgt := 136) hx hb dX11_parted_55 (by decide) (fun hb_1 => ?_) (fun hb_1 => ?_)
  · have hf := zif_t hb_1 hf
    refine lv_iload_n hx hb dX11_parted_136 rfl (lv_at hl 2 rfl) ?_
    by_cases hw20 : v2 = 0
    · have hf := zif_t hw20 hf
      refine lv_tableIn (off := 31) (tgt := 168) hx hb dX11_parted_137 (by rw [hw20]; decide) (by rw [hw20]; decide) (by rw [hw20]; decide) (by decide) ?_
      refine lv_iload hx hb dX11_parted_168 (lv_at hl 5 rfl) ?_
      cases hf
      exact zeri hx hb hr hk dX11_parted_170
    · have hf := zif_f hw20 hf
      by_cases hw21 : v2 = 1
      · have hf := zif_t hw21 hf
        refine lv_tableIn (off := 34) (tgt := 171) hx hb dX11_parted_137 (by rw [hw21]; decide) (by rw [hw21]; decide) (by rw [hw21]; decide) (by decide) ?_
        refine lv_iload hx hb dX11_parted_171 (lv_at hl 5 rfl) ?_
        refine lv_if_ne (tgt := 180) hx hb dX11_parted_173 (by decide) (fun hb_3 => ?_) (fun hb_3 => ?_)
        · have hf := zif_f hb_3 hf
          refine lv_iload hx hb dX11_parted_180 (lv_at hl 6 rfl) ?_
          cases hf
          exact zeri hx hb hr hk dX11_parted_182
        · have hf := zif_t hb_3 hf
          refine lv_iconst (v := 0) hx hb dX11_parted_176 (by decide) ?_
          refine lv_goto (tgt := 182) hx hb dX11_parted_177 (by decide) ?_
          cases hf
          exact zeri hx hb hr hk dX11_parted_182
      · have hf := zif_f hw21 hf
        by_cases hw22 : v2 = 2
        · have hf := zif_t hw22 hf
          refine lv_tableIn (off := 46) (tgt := 183) hx hb dX11_parted_137 (by rw [hw22]; decide) (by rw [hw22]; decide) (by rw [hw22]; decide) (by decide) ?_
          refine lv_iload hx hb dX11_parted_183 (lv_at hl 5 rfl) ?_
          refine lv_if_ne (tgt := 192) hx hb dX11_parted_185 (by decide) (fun hb_4 => ?_) (fun hb_4 => ?_)
          · have hf := zif_f hb_4 hf
            refine lv_iload hx hb dX11_parted_192 (lv_at hl 4 rfl) ?_
            refine lv_iload hx hb dX11_parted_194 (lv_at hl 7 rfl) ?_
            refine lv_iconst (v := (-1)) hx hb dX11_parted_196 (by decide) ?_
            refine lv_ixor hx hb dX11_parted_197 ?_
            refine lv_iand hx hb dX11_parted_198 ?_
            cases hf
            exact zeri hx hb hr hk dX11_parted_199
          · have hf := zif_t hb_4 hf
            refine lv_iconst (v := 0) hx hb dX11_parted_188 (by decide) ?_
            refine lv_goto (tgt := 199) hx hb dX11_parted_189 (by decide) ?_
            cases hf
            exact zeri hx hb hr hk dX11_parted_199
        · have hf := zif_f hw22 hf
          by_cases hw23 : v2 = 3
          · have hf := zif_t hw23 hf
            refine lv_tableIn (off := 63) (tgt := 200) hx hb dX11_parted_137 (by rw [hw23]; decide) (by rw [hw23]; decide) (by rw [hw23]; decide) (by decide) ?_
            refine lv_iload hx hb dX11_parted_200 (lv_at hl 8 rfl) ?_
            refine lv_if_ge (tgt := 209) hx hb dX11_parted_202 (by decide) (fun hb_5 => ?_) (fun hb_5 => ?_)
            · have hf := zif_t hb_5 hf
              refine lv_iload hx hb dX11_parted_209 (lv_at hl 9 rfl) ?_
              cases hf
              exact zeri hx hb hr hk dX11_parted_211
            · have hf := zif_f hb_5 hf
              refine lv_iconst (v := (-1)) hx hb dX11_parted_205 (by decide) ?_
              refine lv_goto (tgt := 211) hx hb dX11_parted_206 (by decide) ?_
              cases hf
              exact zeri hx hb hr hk dX11_parted_211
          · have hf := zif_f hw23 hf
            refine lv_tableOut (tgt := 212) hx hb dX11_parted_137 (zsw 3 (by decide) (fun k hk => ?_)) (by decide) ?_
            · rcases (show k = 0 ∨ k = 1 ∨ k = 2 ∨ k = 3 by omega) with rfl | rfl | rfl | rfl
              · exact hw20
              · exact hw21
              · exact hw22
              · exact hw23
            · refine lv_iload hx hb dX11_parted_212 (lv_at hl 8 rfl) ?_
              cases hf
              exact zeri hx hb hr hk dX11_parted_214
  · have hf := zif_f hb_1 hf
    refine lv_iload hx hb dX11_parted_58 (lv_at hl 10 rfl) ?_
    refine lv_iload hx hb dX11_parted_60 (lv_at hl 4 rfl) ?_
    refine lv_iconst (v := (-1)) hx hb dX11_parted_62 (by decide) ?_
    refine lv_ixor hx hb dX11_parted_63 ?_
    refine lv_iand hx hb dX11_parted_64 ?_
    refine lv_if_ne (tgt := 130) hx hb dX11_parted_65 (by decide) (fun hb_6 => ?_) (fun hb_6 => ?_)
    · have hf := zif_f hb_6 hf
      exact k_Mo_parted_b130 C0 s0 v1 v2 v3 v4 v5 v6 v7 v8 v9 v10 hk51 hP hf _ (lv_sub hl [0, 1, 2, 3, 4, 5, 6, 7, 8, 9, 10] rfl)
    · have hf := zif_t hb_6 hf
      refine lv_aload_n hx hb dX11_parted_68 rfl (lv_at hl 0 rfl) ?_
      refine lv_iload hx hb dX11_parted_69 (lv_at hl 10 rfl) ?_
      refine lv_iload_n hx hb dX11_parted_71 rfl (lv_at hl 1 rfl) ?_
      refine lv_iload_n hx hb dX11_parted_72 rfl (lv_at hl 3 rfl) ?_
      obtain ⟨z7, hc8, hf⟩ := zbd_some hf
      refine zri (zV (As := [.int v10, .int v1, .int v3]) hx hb hml hown hT hl.1 (c_Mo_isParted o0 a0 s0 v10 v1 v3 hc8) zY_Mo_isParted tb_1434 (zpR hK hP [0, 1, 2, 4, 5, 6, 7, 8, 9, 10, 11, 12, 13] rfl 0 11 rfl rfl rfl) rm_ok_Mo_parted_Mo_isParted rfl rfl (Nat.le_of_ble_eq_true rfl) dX11_parted_73 ⟨Nat.zero_le _, Nat.zero_le _⟩) ?_
      refine lv_if_ne (tgt := 82) hx hb dX11_parted_76 (by decide) (fun hb_9 => ?_) (fun hb_9 => ?_)
      · have hf := zif_f hb_9 hf
        refine lv_iinc (v := v5 + 1) (lv' := [(5, .int (v5 + 1)), (0, .ref o0), (1, .int v1), (2, .int v2), (3, .int v3), (4, .int v4), (6, .int v6), (7, .int v7), (8, .int v8), (9, .int v9), (10, .int v10)]) hx hb dX11_parted_82 hl (k := 5) rfl rfl (by decide) rfl (fun ls hl => ?_)
        refine lv_iload hx hb dX11_parted_85 (lv_at hl 6 rfl) ?_
        refine lv_iload hx hb dX11_parted_87 (lv_at hl 10 rfl) ?_
        refine lv_iand hx hb dX11_parted_89 ?_
        refine lv_istore (lv' := [(6, .int (v6 &&& v10)), (5, .int (v5 + 1)), (0, .ref o0), (1, .int v1), (2, .int v2), (3, .int v3), (4, .int v4), (7, .int v7), (8, .int v8), (9, .int v9), (10, .int v10)]) hx hb dX11_parted_90 hl (by decide) rfl (fun ls hl => ?_)
        refine lv_iload hx hb dX11_parted_92 (lv_at hl 7 rfl) ?_
        refine lv_iload hx hb dX11_parted_94 (lv_at hl 10 rfl) ?_
        refine lv_ior hx hb dX11_parted_96 ?_
        refine lv_istore (lv' := [(7, .int (v7 ||| v10)), (6, .int (v6 &&& v10)), (5, .int (v5 + 1)), (0, .ref o0), (1, .int v1), (2, .int v2), (3, .int v3), (4, .int v4), (8, .int v8), (9, .int v9), (10, .int v10)]) hx hb dX11_parted_97 hl (by decide) rfl (fun ls hl => ?_)
        refine lv_aload_n hx hb dX11_parted_99 rfl (lv_at hl 3 rfl) ?_
        refine lv_iload hx hb dX11_parted_100 (lv_at hl 10 rfl) ?_
        obtain ⟨z10, hc11, hf⟩ := zbd_some hf
        refine zri (zV (As := [.int v10]) hx hb hml hown hT hl.1 (c_Mo_mixedOf o0 a0 s0 v10 hc11) zY_Mo_mixedOf tb_1438 (zpR hK hP [0, 3, 5] rfl 0 11 rfl rfl rfl) rm_ok_Mo_parted_Mo_mixedOf rfl rfl (Nat.le_of_ble_eq_true rfl) dX11_parted_102 ⟨Nat.zero_le _, Nat.zero_le _⟩) ?_
        refine lv_istore (lv' := [(11, .int z10), (7, .int (v7 ||| v10)), (6, .int (v6 &&& v10)), (5, .int (v5 + 1)), (0, .ref o0), (1, .int v1), (2, .int v2), (3, .int v3), (4, .int v4), (8, .int v8), (9, .int v9), (10, .int v10)]) hx hb dX11_parted_105 hl (by decide) rfl (fun ls hl => ?_)
        refine lv_iload hx hb dX11_parted_107 (lv_at hl 9 rfl) ?_
        refine lv_if_lt (tgt := 122) hx hb dX11_parted_109 (by decide) (fun hb_12 => ?_) (fun hb_12 => ?_)
        · have hf := zif_t hb_12 hf
          exact k_Mo_parted_b122 C0 s0 v1 v2 v3 v4 (v5 + 1) (v6 &&& v10) (v7 ||| v10) v10 z10 hk51 hP hf _ (lv_sub hl [4, 5, 6, 7, 8, 3, 2, 1, 11, 0] rfl)
        · have hf := zif_f hb_12 hf
          refine lv_iload hx hb dX11_parted_112 (lv_at hl 0 rfl) ?_
          refine lv_iload hx hb dX11_parted_114 (lv_at hl 10 rfl) ?_
          refine lv_icmp_lt (tgt := 122) hx hb dX11_parted_116 (by decide) (fun hb_13 => ?_) (fun hb_13 => ?_)
          · have hf := zif_t hb_13 hf
            exact k_Mo_parted_b122 C0 s0 v1 v2 v3 v4 (v5 + 1) (v6 &&& v10) (v7 ||| v10) v10 z10 hk51 hP hf _ (lv_sub hl [4, 5, 6, 7, 8, 3, 2, 1, 11, 0] rfl)
          · have hf := zif_f hb_13 hf
            refine lv_goto (tgt := 130) hx hb dX11_parted_119 (by decide) ?_
            exact k_Mo_parted_b130 C0 s0 v1 v2 v3 v4 (v5 + 1) (v6 &&& v10) (v7 ||| v10) v8 v9 v10 hk51 hP hf _ (lv_sub hl [4, 5, 6, 7, 8, 3, 2, 1, 9, 10, 11] rfl)
      · have hf := zif_t hb_9 hf
        refine lv_goto (tgt := 130) hx hb dX11_parted_79 (by decide) ?_
        exact k_Mo_parted_b130 C0 s0 v1 v2 v3 v4 v5 v6 v7 v8 v9 v10 hk51 hP hf _ (lv_sub hl [0, 1, 2, 3, 4, 5, 6, 7, 8, 9, 10] rfl)
set_option maxHeartbeats 4000000 in
set_option maxRecDepth 100000 in
theorem k_Mo_parted_h51 {p : Program} {l : Launch} {e : Env} {s : State} {m : MethodId} {args : Array Value} {below : List Frame} {meth : Method} {c : Code} {dC : Nat → ClassId} {dI : Nat → Nat → Nat} {cy : Nat → ClassId} {o0 : Nat} {a0 : Nat → Nat} {N : Nat} {y : Int32} (C0 : zCx p s m args meth c cX11_parted 12 (some .int) RX11 (dC, dI) cy) (s0 : zSt) (v1 : Int32) (v2 : Int32) (v3 : Int32) (v4 : Int32) (hP : va_P (dC, dI) vwCl (wd_Mo_parted cy o0 a0 (zI s0) (zL s0) (zA s0 16) (zA s0 17) (zA s0 18) (zA s0 19) (zA s0 21) (zA s0 39) (zA s0 40) (zA s0 41) (zA s0 42) (zA s0 43) (zA s0 44) (zA s0 45) (zA s0 46)) s.heap) : ∀ (n : Nat) (v5 : Int32) (v6 : Int32) (v7 : Int32) (v8 : Int32) (v9 : Int32) (v10 : Int32) (hf : Mo_parted_h51 N s0 v1 v2 v3 v4 n v5 v6 v7 v8 v9 v10 = some y) (ls : Array Slot) (hl : lv_has ls 12 [(0, .ref o0), (1, .int v1), (2, .int v2), (3, .int v3), (4, .int v4), (5, .int v5), (6, .int v6), (7, .int v7), (8, .int v8), (9, .int v9), (10, .int v10)]), W p l e rm_Mo_parted s m args below meth c s.heap [] 0 0 (MQ below (zSi y) args s 0 0 (fun _ => False)) (F0 m 51 ls []) := by
  intro n
  induction n with
  | zero => intro v5 v6 v7 v8 v9 v10 hf; cases hf
  | succ n ih =>
    intro v5 v6 v7 v8 v9 v10 hf ls hl
    have hf : Mo_parted_b51 N (Mo_parted_h51 N s0 v1 v2 v3 v4 n) s0 v1 v2 v3 v4 v5 v6 v7 v8 v9 v10 = some y := hf
    exact k_Mo_parted_b51 C0 s0 v1 v2 v3 v4 v5 v6 v7 v8 v9 v10 (fun v5 v6 v7 v8 v9 v10 hf ls hl => ih v5 v6 v7 v8 v9 v10 hf ls hl) hP hf ls hl
set_option maxHeartbeats 4000000 in
set_option maxRecDepth 100000 in
theorem k_Mo_parted_b0 {p : Program} {l : Launch} {e : Env} {s : State} {m : MethodId} {args : Array Value} {below : List Frame} {meth : Method} {c : Code} {dC : Nat → ClassId} {dI : Nat → Nat → Nat} {cy : Nat → ClassId} {o0 : Nat} {a0 : Nat → Nat} {N : Nat} {y : Int32} (C0 : zCx p s m args meth c cX11_parted 12 (some .int) RX11 (dC, dI) cy) (s0 : zSt) (v1 : Int32) (v2 : Int32) (v3 : Int32) (hP : va_P (dC, dI) vwCl (wd_Mo_parted cy o0 a0 (zI s0) (zL s0) (zA s0 16) (zA s0 17) (zA s0 18) (zA s0 19) (zA s0 21) (zA s0 39) (zA s0 40) (zA s0 41) (zA s0 42) (zA s0 43) (zA s0 44) (zA s0 45) (zA s0 46)) s.heap) (hf : Mo_parted_b0 N s0 v1 v2 v3 = some y) (ls : Array Slot) (hl : lv_has ls 12 [(0, .ref o0), (1, .int v1), (2, .int v2), (3, .int v3)]) : W p l e rm_Mo_parted s m args below meth c s.heap [] 0 0 (MQ below (zSi y) args s 0 0 (fun _ => False)) (F0 m 0 ls []) := by
  obtain ⟨hx, hb, hr, hml, hown, hT, hk, hK⟩ := id C0
  refine lv_iload_n hx hb dX11_parted_0 rfl (lv_at hl 1 rfl) ?_
  obtain ⟨z1, hc2, hf⟩ := zbd_some hf
  refine zri (zS (As := [.int v1]) hx hb hml hown hT hl.1 (c_Mo_isWind v1 hc2) zY_Mo_isWind tb_1367 (zpS hK hP [] rfl) rm_ok_Mo_parted_Mo_isWind rfl rfl (Nat.le_of_ble_eq_true rfl) dX11_parted_1 ⟨Nat.zero_le _, Nat.zero_le _⟩) ?_
  refine lv_if_eq (tgt := 23) hx hb dX11_parted_4 (by decide) (fun hb_3 => ?_) (fun hb_3 => ?_)
  · have hf := zif_t hb_3 hf
    refine lv_bipush (v := (-2)) hx hb dX11_parted_23 (by decide) ?_
    cases hf
    exact zeri hx hb hr hk dX11_parted_25
  · have hf := zif_f hb_3 hf
    refine lv_iload_n hx hb dX11_parted_7 rfl (lv_at hl 2 rfl) ?_
    refine lv_iconst (v := 0) hx hb dX11_parted_8 (by decide) ?_
    refine lv_iconst (v := 4) hx hb dX11_parted_9 (by decide) ?_
    obtain ⟨z4, hc5, hf⟩ := zbd_some hf
    refine zri (zS (As := [.int v2, .int 0, .int 4]) hx hb hml hown hT hl.1 (c_Mo_isIn v2 0 4 hc5) zY_Mo_isIn tb_1319 (zpS hK hP [] rfl) rm_ok_Mo_parted_Mo_isIn rfl rfl (Nat.le_of_ble_eq_true rfl) dX11_parted_10 ⟨Nat.zero_le _, Nat.zero_le _⟩) ?_
    refine lv_if_eq (tgt := 23) hx hb dX11_parted_13 (by decide) (fun hb_6 => ?_) (fun hb_6 => ?_)
    · have hf := zif_t hb_6 hf
      refine lv_bipush (v := (-2)) hx hb dX11_parted_23 (by decide) ?_
      cases hf
      exact zeri hx hb hr hk dX11_parted_25
    · have hf := zif_f hb_6 hf
      refine lv_aload_n hx hb dX11_parted_16 rfl (lv_at hl 0 rfl) ?_
      refine zget (v := .int (zI s0 50)) hx hb hown hT hK hP inX11 rfl smX11 0 rfl 50 (by decide) tb_1052 rfl dX11_parted_17 ?_
      refine lv_if_ne (tgt := 26) hx hb dX11_parted_20 (by decide) (fun hb_7 => ?_) (fun hb_7 => ?_)
      · have hf := zif_f hb_7 hf
        refine lv_aload_n hx hb dX11_parted_26 rfl (lv_at hl 0 rfl) ?_
        obtain ⟨z8, hc9, hf⟩ := zbd_some hf
        refine zri (zV (As := []) hx hb hml hown hT hl.1 (c_Mo_beastSet o0 a0 s0 hc9) zY_Mo_beastSet tb_1303 (zpR hK hP [0, 5] rfl 0 11 rfl rfl rfl) rm_ok_Mo_parted_Mo_beastSet rfl rfl (Nat.le_of_ble_eq_true rfl) dX11_parted_27 ⟨Nat.zero_le _, Nat.zero_le _⟩) ?_
        refine lv_istore (lv' := [(4, .int z8), (0, .ref o0), (1, .int v1), (2, .int v2), (3, .int v3)]) hx hb dX11_parted_30 hl (by decide) rfl (fun ls hl => ?_)
        refine lv_iconst (v := 0) hx hb dX11_parted_32 (by decide) ?_
        refine lv_istore (lv' := [(5, .int 0), (4, .int z8), (0, .ref o0), (1, .int v1), (2, .int v2), (3, .int v3)]) hx hb dX11_parted_33 hl (by decide) rfl (fun ls hl => ?_)
        refine lv_iload hx hb dX11_parted_35 (lv_at hl 1 rfl) ?_
        refine lv_istore (lv' := [(6, .int z8), (5, .int 0), (4, .int z8), (0, .ref o0), (1, .int v1), (2, .int v2), (3, .int v3)]) hx hb dX11_parted_37 hl (by decide) rfl (fun ls hl => ?_)
        refine lv_iconst (v := 0) hx hb dX11_parted_39 (by decide) ?_
        refine lv_istore (lv' := [(7, .int 0), (6, .int z8), (5, .int 0), (4, .int z8), (0, .ref o0), (1, .int v1), (2, .int v2), (3, .int v3)]) hx hb dX11_parted_40 hl (by decide) rfl (fun ls hl => ?_)
        refine lv_iconst (v := (-1)) hx hb dX11_parted_42 (by decide) ?_
        refine lv_istore (lv' := [(8, .int (-1)), (7, .int 0), (6, .int z8), (5, .int 0), (4, .int z8), (0, .ref o0), (1, .int v1), (2, .int v2), (3, .int v3)]) hx hb dX11_parted_43 hl (by decide) rfl (fun ls hl => ?_)
        refine lv_iconst (v := 0) hx hb dX11_parted_45 (by decide) ?_
        refine lv_istore (lv' := [(9, .int 0), (8, .int (-1)), (7, .int 0), (6, .int z8), (5, .int 0), (4, .int z8), (0, .ref o0), (1, .int v1), (2, .int v2), (3, .int v3)]) hx hb dX11_parted_46 hl (by decide) rfl (fun ls hl => ?_)
        refine lv_iconst (v := 0) hx hb dX11_parted_48 (by decide) ?_
        refine lv_istore (lv' := [(10, .int 0), (9, .int 0), (8, .int (-1)), (7, .int 0), (6, .int z8), (5, .int 0), (4, .int z8), (0, .ref o0), (1, .int v1), (2, .int v2), (3, .int v3)]) hx hb dX11_parted_49 hl (by decide) rfl (fun ls hl => ?_)
        exact k_Mo_parted_h51 C0 s0 v1 v2 v3 z8  hP N 0 z8 0 (-1) 0 0 hf _ (lv_sub hl [7, 8, 9, 10, 6, 5, 4, 3, 2, 1, 0] rfl)
      · have hf := zif_t hb_7 hf
        refine lv_bipush (v := (-2)) hx hb dX11_parted_23 (by decide) ?_
        cases hf
        exact zeri hx hb hr hk dX11_parted_25
set_option maxHeartbeats 4000000 in
set_option maxRecDepth 100000 in
theorem c_Mo_parted {l : Launch} {dC : Nat → ClassId} {dI : Nat → Nat → Nat} {cy : Nat → ClassId} {N : Nat} (o0 : Nat) (a0 : Nat → Nat) (s0 : zSt) (v1 : Int32) (v2 : Int32) (v3 : Int32) {y : Int32} (hf : Mo_parted N s0 v1 v2 v3 = some y) : Met l yX11_parted (.code yX11_parted cX11_parted 12 (some .int) :: zt) rm_Mo_parted (va_Pc [.ref o0, .int v1, .int v2, .int v3] (zRd (dC, dI) cy (wd_Mo_parted cy o0 a0 (zI s0) (zL s0) (zA s0 16) (zA s0 17) (zA s0 18) (zA s0 19) (zA s0 21) (zA s0 39) (zA s0 40) (zA s0 41) (zA s0 42) (zA s0 43) (zA s0 44) (zA s0 45) (zA s0 46)))) (zSi y) 0 0 (fun _ => False) :=
  zentR (by decide +kernel) (Nat.le_of_ble_eq_true rfl) (fun p e s m below meth c C0 hP ls hl => k_Mo_parted_b0 C0 s0 v1 v2 v3 hP hf ls hl)
def wd_Mo_couldCome (cy : Nat → ClassId) (o0 : Nat) (a0 : Nat → Nat) (g0 : Nat → Int32) (h0 : Nat → Int64) (x0_16 : Nat → Int32) (x0_17 : Nat → Int32) (x0_19 : Nat → Int32) (x0_21 : Nat → Int32) (x0_39 : Nat → Int32) (x0_40 : Nat → Int32) (x0_41 : Nat → Int32) (x0_42 : Nat → Int32) (x0_43 : Nat → Int32) (x0_44 : Nat → Int32) (x0_45 : Nat → Int32) (x0_46 : Nat → Int32) : va_W := [(o0, .inr (11, fs_Mo a0 g0 h0)), (a0 16, .inl (cy 0, 11, .inl x0_16)), (a0 17, .inl (cy 0, 11, .inl x0_17)), (a0 19, .inl (cy 0, 4, .inl x0_19)), (a0 21, .inl (cy 0, 9, .inl x0_21)), (a0 39, .inl (cy 0, 40, .inl x0_39)), (a0 40, .inl (cy 0, 40, .inl x0_40)), (a0 41, .inl (cy 0, 40, .inl x0_41)), (a0 42, .inl (cy 0, 40, .inl x0_42)), (a0 43, .inl (cy 0, 40, .inl x0_43)), (a0 44, .inl (cy 0, 40, .inl x0_44)), (a0 45, .inl (cy 0, 40, .inl x0_45)), (a0 46, .inl (cy 0, 40, .inl x0_46))]
def rm_Mo_couldCome : Room := { frames := 4, cells := 0, slots := 0, locals := 118 }
theorem rm_ok_Mo_couldCome_Mo_beastSet : rm_Mo_beastSet.cells = 0 ∧ rm_Mo_beastSet.slots = 0 ∧ rm_Mo_beastSet.frames + 1 ≤ rm_Mo_couldCome.frames ∧ 8 + (3 + 11) + rm_Mo_beastSet.locals ≤ rm_Mo_couldCome.locals := by decide
theorem rm_ok_Mo_couldCome_Mo_counts : rm_Mo_counts.cells = 0 ∧ rm_Mo_counts.slots = 0 ∧ rm_Mo_counts.frames + 1 ≤ rm_Mo_couldCome.frames ∧ 8 + (4 + 11) + rm_Mo_counts.locals ≤ rm_Mo_couldCome.locals := by decide
theorem rm_ok_Mo_couldCome_Mo_isSo : rm_Mo_isSo.cells = 0 ∧ rm_Mo_isSo.slots = 0 ∧ rm_Mo_isSo.frames + 1 ≤ rm_Mo_couldCome.frames ∧ 8 + (6 + 11) + rm_Mo_isSo.locals ≤ rm_Mo_couldCome.locals := by decide
set_option maxHeartbeats 4000000 in
set_option maxRecDepth 100000 in
theorem k_Mo_couldCome_b72 {p : Program} {l : Launch} {e : Env} {s : State} {m : MethodId} {args : Array Value} {below : List Frame} {meth : Method} {c : Code} {dC : Nat → ClassId} {dI : Nat → Nat → Nat} {cy : Nat → ClassId} {o0 : Nat} {a0 : Nat → Nat} {N : Nat} {kh6 : Int32 → Int32 → Option (Int32)} {y : Int32} (C0 : zCx p s m args meth c cX11_couldCome 8 (some .boolean) RX11 (dC, dI) cy) (s0 : zSt) (v1 : Int32) (v2 : Int32) (v3 : Int32) (v4 : Int32) (v5 : Int32) (v7 : Int32) (t0 : Int32) (hk6 : ∀ (v6 : Int32) (v7 : Int32) (_ : kh6 v6 v7 = some y) (ls : Array Slot) (_ : lv_has ls 8 [(0, .ref o0), (1, .int v1), (2, .int v2), (3, .int v3), (4, .int v4), (5, .int v5), (6, .int v6), (7, .int v7)]), W p l e rm_Mo_couldCome s m args below meth c s.heap [] 0 0 (MQ below (zSi y) args s 0 0 (fun _ => False)) (F0 m 6 ls [])) (hP : va_P (dC, dI) vwCl (wd_Mo_couldCome cy o0 a0 (zI s0) (zL s0) (zA s0 16) (zA s0 17) (zA s0 19) (zA s0 21) (zA s0 39) (zA s0 40) (zA s0 41) (zA s0 42) (zA s0 43) (zA s0 44) (zA s0 45) (zA s0 46)) s.heap) (hf : Mo_couldCome_b72 N kh6 s0 v1 v2 v3 v4 v5 v7 t0 = some y) (ls : Array Slot) (hl : lv_has ls 8 [(0, .ref o0), (1, .int v1), (2, .int v2), (3, .int v3), (4, .int v4), (5, .int v5), (7, .int v7)]) : W p l e rm_Mo_couldCome s m args below meth c s.heap [] 0 0 (MQ below (zSi y) args s 0 0 (fun _ => False)) (F0 m 72 ls [.int t0]) := by
  obtain ⟨hx, hb, hr, hml, hown, hT, hk, hK⟩ := id C0
  refine lv_istore (lv' := [(6, .int t0), (0, .ref o0), (1, .int v1), (2, .int v2), (3, .int v3), (4, .int v4), (5, .int v5), (7, .int v7)]) hx hb dX11_couldCome_72 hl (by decide) rfl (fun ls hl => ?_)
  refine lv_iinc (v := v7 + 1) (lv' := [(7, .int (v7 + 1)), (6, .int t0), (0, .ref o0), (1, .int v1), (2, .int v2), (3, .int v3), (4, .int v4), (5, .int v5)]) hx hb dX11_couldCome_74 hl (k := 7) rfl rfl (by decide) rfl (fun ls hl => ?_)
  refine lv_goto (tgt := 6) hx hb dX11_couldCome_77 (by decide) ?_
  exact hk6 t0 (v7 + 1) hf _ (lv_sub hl [2, 3, 4, 5, 6, 7, 1, 0] rfl)
set_option maxHeartbeats 4000000 in
set_option maxRecDepth 100000 in
theorem k_Mo_couldCome_b67 {p : Program} {l : Launch} {e : Env} {s : State} {m : MethodId} {args : Array Value} {below : List Frame} {meth : Method} {c : Code} {dC : Nat → ClassId} {dI : Nat → Nat → Nat} {cy : Nat → ClassId} {o0 : Nat} {a0 : Nat → Nat} {N : Nat} {kh6 : Int32 → Int32 → Option (Int32)} {y : Int32} (C0 : zCx p s m args meth c cX11_couldCome 8 (some .boolean) RX11 (dC, dI) cy) (s0 : zSt) (v1 : Int32) (v2 : Int32) (v3 : Int32) (v4 : Int32) (v5 : Int32) (v7 : Int32) (hk6 : ∀ (v6 : Int32) (v7 : Int32) (_ : kh6 v6 v7 = some y) (ls : Array Slot) (_ : lv_has ls 8 [(0, .ref o0), (1, .int v1), (2, .int v2), (3, .int v3), (4, .int v4), (5, .int v5), (6, .int v6), (7, .int v7)]), W p l e rm_Mo_couldCome s m args below meth c s.heap [] 0 0 (MQ below (zSi y) args s 0 0 (fun _ => False)) (F0 m 6 ls [])) (hP : va_P (dC, dI) vwCl (wd_Mo_couldCome cy o0 a0 (zI s0) (zL s0) (zA s0 16) (zA s0 17) (zA s0 19) (zA s0 21) (zA s0 39) (zA s0 40) (zA s0 41) (zA s0 42) (zA s0 43) (zA s0 44) (zA s0 45) (zA s0 46)) s.heap) (hf : Mo_couldCome_b67 N kh6 s0 v1 v2 v3 v4 v5 v7 = some y) (ls : Array Slot) (hl : lv_has ls 8 [(0, .ref o0), (1, .int v1), (2, .int v2), (3, .int v3), (4, .int v4), (5, .int v5), (7, .int v7)]) : W p l e rm_Mo_couldCome s m args below meth c s.heap [] 0 0 (MQ below (zSi y) args s 0 0 (fun _ => False)) (F0 m 67 ls []) := by
  obtain ⟨hx, hb, hr, hml, hown, hT, hk, hK⟩ := id C0
  refine lv_iconst (v := 1) hx hb dX11_couldCome_67 (by decide) ?_
  refine lv_goto (tgt := 72) hx hb dX11_couldCome_68 (by decide) ?_
  exact k_Mo_couldCome_b72 C0 s0 v1 v2 v3 v4 v5 v7 1 hk6 hP hf _ (lv_sub hl [0, 1, 2, 3, 4, 5, 6] rfl)
set_option maxHeartbeats 4000000 in
set_option maxRecDepth 100000 in
theorem k_Mo_couldCome_b57 {p : Program} {l : Launch} {e : Env} {s : State} {m : MethodId} {args : Array Value} {below : List Frame} {meth : Method} {c : Code} {dC : Nat → ClassId} {dI : Nat → Nat → Nat} {cy : Nat → ClassId} {o0 : Nat} {a0 : Nat → Nat} {N : Nat} {kh6 : Int32 → Int32 → Option (Int32)} {y : Int32} (C0 : zCx p s m args meth c cX11_couldCome 8 (some .boolean) RX11 (dC, dI) cy) (s0 : zSt) (v1 : Int32) (v2 : Int32) (v3 : Int32) (v4 : Int32) (v5 : Int32) (v7 : Int32) (t1 : Int32) (t2 : Int32) (t3 : Int32) (hk6 : ∀ (v6 : Int32) (v7 : Int32) (_ : kh6 v6 v7 = some y) (ls : Array Slot) (_ : lv_has ls 8 [(0, .ref o0), (1, .int v1), (2, .int v2), (3, .int v3), (4, .int v4), (5, .int v5), (6, .int v6), (7, .int v7)]), W p l e rm_Mo_couldCome s m args below meth c s.heap [] 0 0 (MQ below (zSi y) args s 0 0 (fun _ => False)) (F0 m 6 ls [])) (hP : va_P (dC, dI) vwCl (wd_Mo_couldCome cy o0 a0 (zI s0) (zL s0) (zA s0 16) (zA s0 17) (zA s0 19) (zA s0 21) (zA s0 39) (zA s0 40) (zA s0 41) (zA s0 42) (zA s0 43) (zA s0 44) (zA s0 45) (zA s0 46)) s.heap) (hf : Mo_couldCome_b57 N kh6 s0 v1 v2 v3 v4 v5 v7 t1 t2 t3 = some y) (ls : Array Slot) (hl : lv_has ls 8 [(0, .ref o0), (1, .int v1), (2, .int v2), (3, .int v3), (4, .int v4), (5, .int v5), (7, .int v7)]) : W p l e rm_Mo_couldCome s m args below meth c s.heap [] 0 0 (MQ below (zSi y) args s 0 0 (fun _ => False)) (F0 m 57 ls [.int t3, .int t2, .int t1, .ref o0]) := by
  obtain ⟨hx, hb, hr, hml, hown, hT, hk, hK⟩ := id C0
  refine lv_ior hx hb dX11_couldCome_57 ?_
  refine lv_iload_n hx hb dX11_couldCome_58 rfl (lv_at hl 3 rfl) ?_
  refine lv_iload hx hb dX11_couldCome_59 (lv_at hl 4 rfl) ?_
  obtain ⟨z1, hc2, hf⟩ := zbd_some hf
  refine zri (zV (As := [.int t1, .int (t2 ||| t3), .int v3, .int v4]) hx hb hml hown hT hl.1 (c_Mo_isSo o0 a0 s0 t1 (t2 ||| t3) v3 v4 hc2) zY_Mo_isSo tb_1418 (zpR hK hP [0, 1, 2, 3, 7, 8, 9, 10] rfl 0 11 rfl rfl rfl) rm_ok_Mo_couldCome_Mo_isSo rfl rfl (Nat.le_of_ble_eq_true rfl) dX11_couldCome_61 ⟨Nat.zero_le _, Nat.zero_le _⟩) ?_
  refine lv_if_eq (tgt := 71) hx hb dX11_couldCome_64 (by decide) (fun hb_3 => ?_) (fun hb_3 => ?_)
  · have hf := zif_t hb_3 hf
    refine lv_iconst (v := 0) hx hb dX11_couldCome_71 (by decide) ?_
    exact k_Mo_couldCome_b72 C0 s0 v1 v2 v3 v4 v5 v7 0 hk6 hP hf _ (lv_sub hl [0, 1, 2, 3, 4, 5, 6] rfl)
  · have hf := zif_f hb_3 hf
    exact k_Mo_couldCome_b67 C0 s0 v1 v2 v3 v4 v5 v7 hk6 hP hf _ (lv_sub hl [0, 1, 2, 3, 4, 5, 6] rfl)
set_option maxHeartbeats 4000000 in
set_option maxRecDepth 100000 in
theorem k_Mo_couldCome_b6 {p : Program} {l : Launch} {e : Env} {s : State} {m : MethodId} {args : Array Value} {below : List Frame} {meth : Method} {c : Code} {dC : Nat → ClassId} {dI : Nat → Nat → Nat} {cy : Nat → ClassId} {o0 : Nat} {a0 : Nat → Nat} {N : Nat} {kh6 : Int32 → Int32 → Option (Int32)} {y : Int32} (C0 : zCx p s m args meth c cX11_couldCome 8 (some .boolean) RX11 (dC, dI) cy) (s0 : zSt) (v1 : Int32) (v2 : Int32) (v3 : Int32) (v4 : Int32) (v5 : Int32) (v6 : Int32) (v7 : Int32) (hk6 : ∀ (v6 : Int32) (v7 : Int32) (_ : kh6 v6 v7 = some y) (ls : Array Slot) (_ : lv_has ls 8 [(0, .ref o0), (1, .int v1), (2, .int v2), (3, .int v3), (4, .int v4), (5, .int v5), (6, .int v6), (7, .int v7)]), W p l e rm_Mo_couldCome s m args below meth c s.heap [] 0 0 (MQ below (zSi y) args s 0 0 (fun _ => False)) (F0 m 6 ls [])) (hP : va_P (dC, dI) vwCl (wd_Mo_couldCome cy o0 a0 (zI s0) (zL s0) (zA s0 16) (zA s0 17) (zA s0 19) (zA s0 21) (zA s0 39) (zA s0 40) (zA s0 41) (zA s0 42) (zA s0 43) (zA s0 44) (zA s0 45) (zA s0 46)) s.heap) (hf : Mo_couldCome_b6 N kh6 s0 v1 v2 v3 v4 v5 v6 v7 = some y) (ls : Array Slot) (hl : lv_has ls 8 [(0, .ref o0), (1, .int v1), (2, .int v2), (3, .int v3), (4, .int v4), (5, .int v5), (6, .int v6), (7, .int v7)]) : W p l e rm_Mo_couldCome s m args below meth c s.heap [] 0 0 (MQ below (zSi y) args s 0 0 (fun _ => False)) (F0 m 6 ls []) := by
  obtain ⟨hx, hb, hr, hml, hown, hT, hk, hK⟩ := id C0
  refine lv_iload hx hb dX11_couldCome_6 (lv_at hl 7 rfl) ?_
  refine lv_aload_n hx hb dX11_couldCome_8 rfl (lv_at hl 0 rfl) ?_
  refine zget (v := .int (zI s0 47)) hx hb hown hT hK hP inX11 rfl smX11 0 rfl 47 (by decide) tb_1049 rfl dX11_couldCome_9 ?_
  refine lv_icmp_ge (tgt := 80) hx hb dX11_couldCome_12 (by decide) (fun hb_1 => ?_) (fun hb_1 => ?_)
  · have hf := zif_t hb_1 hf
    refine lv_iload hx hb dX11_couldCome_80 (lv_at hl 6 rfl) ?_
    obtain ⟨hq2, hf⟩ := zcb_some hf
    cases hf
    exact zerz hx hb hr hk hq2 dX11_couldCome_82
  · have hf := zif_f hb_1 hf
    refine lv_iload hx hb dX11_couldCome_15 (lv_at hl 6 rfl) ?_
    refine lv_if_eq (tgt := 80) hx hb dX11_couldCome_17 (by decide) (fun hb_3 => ?_) (fun hb_3 => ?_)
    · have hf := zif_t hb_3 hf
      refine lv_iload hx hb dX11_couldCome_80 (lv_at hl 6 rfl) ?_
      obtain ⟨hq4, hf⟩ := zcb_some hf
      cases hf
      exact zerz hx hb hr hk hq4 dX11_couldCome_82
    · have hf := zif_f hb_3 hf
      refine lv_aload_n hx hb dX11_couldCome_20 rfl (lv_at hl 0 rfl) ?_
      refine lv_iload hx hb dX11_couldCome_21 (lv_at hl 7 rfl) ?_
      refine lv_iconst (v := 0) hx hb dX11_couldCome_23 (by decide) ?_
      refine lv_iload hx hb dX11_couldCome_24 (lv_at hl 5 rfl) ?_
      obtain ⟨z5, hc6, hf⟩ := zbd_some hf
      refine zri (zV (As := [.int v7, .int 0, .int v5]) hx hb hml hown hT hl.1 (c_Mo_counts o0 a0 s0 v7 0 v5 hc6) zY_Mo_counts tb_1414 (zpR hK hP [0, 5, 11, 12] rfl 0 11 rfl rfl rfl) rm_ok_Mo_couldCome_Mo_counts rfl rfl (Nat.le_of_ble_eq_true rfl) dX11_couldCome_26 ⟨Nat.zero_le _, Nat.zero_le _⟩) ?_
      refine lv_if_eq (tgt := 67) hx hb dX11_couldCome_29 (by decide) (fun hb_7 => ?_) (fun hb_7 => ?_)
      · have hf := zif_t hb_7 hf
        exact k_Mo_couldCome_b67 C0 s0 v1 v2 v3 v4 v5 v7 hk6 hP hf _ (lv_sub hl [0, 1, 2, 3, 4, 5, 7] rfl)
      · have hf := zif_f hb_7 hf
        refine lv_aload_n hx hb dX11_couldCome_32 rfl (lv_at hl 0 rfl) ?_
        refine lv_iload hx hb dX11_couldCome_33 (lv_at hl 7 rfl) ?_
        refine lv_aload_n hx hb dX11_couldCome_35 rfl (lv_at hl 0 rfl) ?_
        obtain ⟨z8, hc9, hf⟩ := zbd_some hf
        refine zri (zV (As := []) hx hb hml hown hT hl.1 (c_Mo_beastSet o0 a0 s0 hc9) zY_Mo_beastSet tb_1303 (zpR hK hP [0, 4] rfl 0 11 rfl rfl rfl) rm_ok_Mo_couldCome_Mo_beastSet rfl rfl (Nat.le_of_ble_eq_true rfl) dX11_couldCome_36 ⟨Nat.zero_le _, Nat.zero_le _⟩) ?_
        refine lv_aload_n hx hb dX11_couldCome_39 rfl (lv_at hl 0 rfl) ?_
        refine zget (v := .ref (a0 40)) hx hb hown hT hK hP inX11 rfl smX11 0 rfl 40 (by decide) tb_1042 rfl dX11_couldCome_40 ?_
        refine lv_iload hx hb dX11_couldCome_43 (lv_at hl 7 rfl) ?_
        obtain ⟨hi10, hf⟩ := zck_some hf
        refine va_iald hx hb hK.1 hP 6 0 rfl rfl hi10 dX11_couldCome_45 ?_
        refine lv_iload_n hx hb dX11_couldCome_46 rfl (lv_at hl 2 rfl) ?_
        refine lv_icmp_lt (tgt := 56) hx hb dX11_couldCome_47 (by decide) (fun hb_11 => ?_) (fun hb_11 => ?_)
        · have hf := zif_t hb_11 hf
          refine lv_iconst (v := 0) hx hb dX11_couldCome_56 (by decide) ?_
          exact k_Mo_couldCome_b57 C0 s0 v1 v2 v3 v4 v5 v7 v7 z8 0 hk6 hP hf _ (lv_sub hl [0, 1, 2, 3, 4, 5, 7] rfl)
        · have hf := zif_f hb_11 hf
          refine lv_iconst (v := 1) hx hb dX11_couldCome_50 (by decide) ?_
          refine lv_iload_n hx hb dX11_couldCome_51 rfl (lv_at hl 1 rfl) ?_
          refine lv_ishl hx hb dX11_couldCome_52 ?_
          refine lv_goto (tgt := 57) hx hb dX11_couldCome_53 (by decide) ?_
          exact k_Mo_couldCome_b57 C0 s0 v1 v2 v3 v4 v5 v7 v7 z8 ((1 : Int32) <<< (v1 &&& 31)) hk6 hP hf _ (lv_sub hl [0, 1, 2, 3, 4, 5, 7] rfl)
set_option maxHeartbeats 4000000 in
set_option maxRecDepth 100000 in
theorem k_Mo_couldCome_h6 {p : Program} {l : Launch} {e : Env} {s : State} {m : MethodId} {args : Array Value} {below : List Frame} {meth : Method} {c : Code} {dC : Nat → ClassId} {dI : Nat → Nat → Nat} {cy : Nat → ClassId} {o0 : Nat} {a0 : Nat → Nat} {N : Nat} {y : Int32} (C0 : zCx p s m args meth c cX11_couldCome 8 (some .boolean) RX11 (dC, dI) cy) (s0 : zSt) (v1 : Int32) (v2 : Int32) (v3 : Int32) (v4 : Int32) (v5 : Int32) (hP : va_P (dC, dI) vwCl (wd_Mo_couldCome cy o0 a0 (zI s0) (zL s0) (zA s0 16) (zA s0 17) (zA s0 19) (zA s0 21) (zA s0 39) (zA s0 40) (zA s0 41) (zA s0 42) (zA s0 43) (zA s0 44) (zA s0 45) (zA s0 46)) s.heap) : ∀ (n : Nat) (v6 : Int32) (v7 : Int32) (hf : Mo_couldCome_h6 N s0 v1 v2 v3 v4 v5 n v6 v7 = some y) (ls : Array Slot) (hl : lv_has ls 8 [(0, .ref o0), (1, .int v1), (2, .int v2), (3, .int v3), (4, .int v4), (5, .int v5), (6, .int v6), (7, .int v7)]), W p l e rm_Mo_couldCome s m args below meth c s.heap [] 0 0 (MQ below (zSi y) args s 0 0 (fun _ => False)) (F0 m 6 ls []) := by
  intro n
  induction n with
  | zero => intro v6 v7 hf; cases hf
  | succ n ih =>
    intro v6 v7 hf ls hl
    have hf : Mo_couldCome_b6 N (Mo_couldCome_h6 N s0 v1 v2 v3 v4 v5 n) s0 v1 v2 v3 v4 v5 v6 v7 = some y := hf
    exact k_Mo_couldCome_b6 C0 s0 v1 v2 v3 v4 v5 v6 v7 (fun v6 v7 hf ls hl => ih v6 v7 hf ls hl) hP hf ls hl
set_option maxHeartbeats 4000000 in
set_option maxRecDepth 100000 in
theorem k_Mo_couldCome_b0 {p : Program} {l : Launch} {e : Env} {s : State} {m : MethodId} {args : Array Value} {below : List Frame} {meth : Method} {c : Code} {dC : Nat → ClassId} {dI : Nat → Nat → Nat} {cy : Nat → ClassId} {o0 : Nat} {a0 : Nat → Nat} {N : Nat} {y : Int32} (C0 : zCx p s m args meth c cX11_couldCome 8 (some .boolean) RX11 (dC, dI) cy) (s0 : zSt) (v1 : Int32) (v2 : Int32) (v3 : Int32) (v4 : Int32) (v5 : Int32) (hP : va_P (dC, dI) vwCl (wd_Mo_couldCome cy o0 a0 (zI s0) (zL s0) (zA s0 16) (zA s0 17) (zA s0 19) (zA s0 21) (zA s0 39) (zA s0 40) (zA s0 41) (zA s0 42) (zA s0 43) (zA s0 44) (zA s0 45) (zA s0 46)) s.heap) (hf : Mo_couldCome_b0 N s0 v1 v2 v3 v4 v5 = some y) (ls : Array Slot) (hl : lv_has ls 8 [(0, .ref o0), (1, .int v1), (2, .int v2), (3, .int v3), (4, .int v4), (5, .int v5)]) : W p l e rm_Mo_couldCome s m args below meth c s.heap [] 0 0 (MQ below (zSi y) args s 0 0 (fun _ => False)) (F0 m 0 ls []) := by
  obtain ⟨hx, hb, hr, hml, hown, hT, hk, hK⟩ := id C0
  refine lv_iconst (v := 1) hx hb dX11_couldCome_0 (by decide) ?_
  refine lv_istore (lv' := [(6, .int 1), (0, .ref o0), (1, .int v1), (2, .int v2), (3, .int v3), (4, .int v4), (5, .int v5)]) hx hb dX11_couldCome_1 hl (by decide) rfl (fun ls hl => ?_)
  refine lv_iconst (v := 0) hx hb dX11_couldCome_3 (by decide) ?_
  refine lv_istore (lv' := [(7, .int 0), (6, .int 1), (0, .ref o0), (1, .int v1), (2, .int v2), (3, .int v3), (4, .int v4), (5, .int v5)]) hx hb dX11_couldCome_4 hl (by decide) rfl (fun ls hl => ?_)
  exact k_Mo_couldCome_h6 C0 s0 v1 v2 v3 v4 v5  hP N 1 0 hf _ (lv_sub hl [2, 3, 4, 5, 6, 7, 1, 0] rfl)
set_option maxHeartbeats 4000000 in
set_option maxRecDepth 100000 in
theorem c_Mo_couldCome {l : Launch} {dC : Nat → ClassId} {dI : Nat → Nat → Nat} {cy : Nat → ClassId} {N : Nat} (o0 : Nat) (a0 : Nat → Nat) (s0 : zSt) (v1 : Int32) (v2 : Int32) (v3 : Int32) (v4 : Int32) (v5 : Int32) {y : Int32} (hf : Mo_couldCome N s0 v1 v2 v3 v4 v5 = some y) : Met l yX11_couldCome (.code yX11_couldCome cX11_couldCome 8 (some .boolean) :: zt) rm_Mo_couldCome (va_Pc [.ref o0, .int v1, .int v2, .int v3, .int v4, .int v5] (zRd (dC, dI) cy (wd_Mo_couldCome cy o0 a0 (zI s0) (zL s0) (zA s0 16) (zA s0 17) (zA s0 19) (zA s0 21) (zA s0 39) (zA s0 40) (zA s0 41) (zA s0 42) (zA s0 43) (zA s0 44) (zA s0 45) (zA s0 46)))) (zSi y) 0 0 (fun _ => False) :=
  zentR (by decide +kernel) (Nat.le_of_ble_eq_true rfl) (fun p e s m below meth c C0 hP ls hl => k_Mo_couldCome_b0 C0 s0 v1 v2 v3 v4 v5 hP hf ls hl)
def wd_Mo_came (cy : Nat → ClassId) (o0 : Nat) (a0 : Nat → Nat) (g0 : Nat → Int32) (h0 : Nat → Int64) (x0_16 : Nat → Int32) (x0_17 : Nat → Int32) (x0_18 : Nat → Int32) (x0_19 : Nat → Int32) (x0_21 : Nat → Int32) (x0_39 : Nat → Int32) (x0_40 : Nat → Int32) (x0_41 : Nat → Int32) (x0_42 : Nat → Int32) (x0_43 : Nat → Int32) (x0_44 : Nat → Int32) (x0_45 : Nat → Int32) (x0_46 : Nat → Int32) : va_W := [(o0, .inr (11, fs_Mo a0 g0 h0)), (a0 16, .inl (cy 0, 11, .inl x0_16)), (a0 17, .inl (cy 0, 11, .inl x0_17)), (a0 18, .inl (cy 0, 11, .inl x0_18)), (a0 19, .inl (cy 0, 4, .inl x0_19)), (a0 21, .inl (cy 0, 9, .inl x0_21)), (a0 39, .inl (cy 0, 40, .inl x0_39)), (a0 40, .inl (cy 0, 40, .inl x0_40)), (a0 41, .inl (cy 0, 40, .inl x0_41)), (a0 42, .inl (cy 0, 40, .inl x0_42)), (a0 43, .inl (cy 0, 40, .inl x0_43)), (a0 44, .inl (cy 0, 40, .inl x0_44)), (a0 45, .inl (cy 0, 40, .inl x0_45)), (a0 46, .inl (cy 0, 40, .inl x0_46))]
def rm_Mo_came : Room := { frames := 5, cells := 0, slots := 0, locals := 145 }
theorem rm_ok_Mo_came_Mo_couldCome : rm_Mo_couldCome.cells = 0 ∧ rm_Mo_couldCome.slots = 0 ∧ rm_Mo_couldCome.frames + 1 ≤ rm_Mo_came.frames ∧ 8 + (8 + 11) + rm_Mo_couldCome.locals ≤ rm_Mo_came.locals := by decide
theorem rm_ok_Mo_came_Mo_isBell : rm_Mo_isBell.cells = 0 ∧ rm_Mo_isBell.slots = 0 ∧ rm_Mo_isBell.frames + 1 ≤ rm_Mo_came.frames ∧ 8 + (2 + 11) + rm_Mo_isBell.locals ≤ rm_Mo_came.locals := by decide
theorem rm_ok_Mo_came_Mo_isIn : rm_Mo_isIn.cells = 0 ∧ rm_Mo_isIn.slots = 0 ∧ rm_Mo_isIn.frames + 1 ≤ rm_Mo_came.frames ∧ 8 + (3 + 11) + rm_Mo_isIn.locals ≤ rm_Mo_came.locals := by decide
theorem rm_ok_Mo_came_Mo_isPlace : rm_Mo_isPlace.cells = 0 ∧ rm_Mo_isPlace.slots = 0 ∧ rm_Mo_isPlace.frames + 1 ≤ rm_Mo_came.frames ∧ 8 + (1 + 11) + rm_Mo_isPlace.locals ≤ rm_Mo_came.locals := by decide
theorem rm_ok_Mo_came_Mo_isWind : rm_Mo_isWind.cells = 0 ∧ rm_Mo_isWind.slots = 0 ∧ rm_Mo_isWind.frames + 1 ≤ rm_Mo_came.frames ∧ 8 + (1 + 11) + rm_Mo_isWind.locals ≤ rm_Mo_came.locals := by decide
set_option maxHeartbeats 4000000 in
set_option maxRecDepth 100000 in
theorem k_Mo_came_b101 {p : Program} {l : Launch} {e : Env} {s : State} {m : MethodId} {args : Array Value} {below : List Frame} {meth : Method} {c : Code} {dC : Nat → ClassId} {dI : Nat → Nat → Nat} {cy : Nat → ClassId} {o0 : Nat} {a0 : Nat → Nat} {N : Nat} {kh56 : Int32 → Int32 → Int32 → Int32 → Option (Int32)} {y : Int32} (C0 : zCx p s m args meth c cX11_came 10 (some .int) RX11 (dC, dI) cy) (s0 : zSt) (v1 : Int32) (v2 : Int32) (v3 : Int32) (v4 : Int32) (v5 : Int32) (v6 : Int32) (v7 : Int32) (v8 : Int32) (v9 : Int32) (hk56 : ∀ (v6 : Int32) (v7 : Int32) (v8 : Int32) (v9 : Int32) (_ : kh56 v6 v7 v8 v9 = some y) (ls : Array Slot) (_ : lv_has ls 10 [(0, .ref o0), (1, .int v1), (2, .int v2), (3, .int v3), (4, .int v4), (5, .int v5), (6, .int v6), (7, .int v7), (8, .int v8), (9, .int v9)]), W p l e rm_Mo_came s m args below meth c s.heap [] 0 0 (MQ below (zSi y) args s 0 0 (fun _ => False)) (F0 m 56 ls [])) (hP : va_P (dC, dI) vwCl (wd_Mo_came cy o0 a0 (zI s0) (zL s0) (zA s0 16) (zA s0 17) (zA s0 18) (zA s0 19) (zA s0 21) (zA s0 39) (zA s0 40) (zA s0 41) (zA s0 42) (zA s0 43) (zA s0 44) (zA s0 45) (zA s0 46)) s.heap) (hf : Mo_came_b101 N kh56 s0 v1 v2 v3 v4 v5 v6 v7 v8 v9 = some y) (ls : Array Slot) (hl : lv_has ls 10 [(0, .ref o0), (1, .int v1), (2, .int v2), (3, .int v3), (4, .int v4), (5, .int v5), (6, .int v6), (7, .int v7), (8, .int v8), (9, .int v9)]) : W p l e rm_Mo_came s m args below meth c s.heap [] 0 0 (MQ below (zSi y) args s 0 0 (fun _ => False)) (F0 m 101 ls []) := by
  obtain ⟨hx, hb, hr, hml, hown, hT, hk, hK⟩ := id C0
  refine lv_iinc (v := v9 + 1) (lv' := [(9, .int (v9 + 1)), (0, .ref o0), (1, .int v1), (2, .int v2), (3, .int v3), (4, .int v4), (5, .int v5), (6, .int v6), (7, .int v7), (8, .int v8)]) hx hb dX11_came_101 hl (k := 9) rfl rfl (by decide) rfl (fun ls hl => ?_)
  refine lv_goto (tgt := 56) hx hb dX11_came_104 (by decide) ?_
  exact hk56 v6 v7 v8 (v9 + 1) hf _ (lv_sub hl [1, 2, 3, 4, 5, 6, 7, 8, 9, 0] rfl)
set_option maxHeartbeats 4000000 in
set_option maxRecDepth 100000 in
theorem k_Mo_came_b95 {p : Program} {l : Launch} {e : Env} {s : State} {m : MethodId} {args : Array Value} {below : List Frame} {meth : Method} {c : Code} {dC : Nat → ClassId} {dI : Nat → Nat → Nat} {cy : Nat → ClassId} {o0 : Nat} {a0 : Nat → Nat} {N : Nat} {kh56 : Int32 → Int32 → Int32 → Int32 → Option (Int32)} {y : Int32} (C0 : zCx p s m args meth c cX11_came 10 (some .int) RX11 (dC, dI) cy) (s0 : zSt) (v1 : Int32) (v2 : Int32) (v3 : Int32) (v4 : Int32) (v5 : Int32) (v6 : Int32) (v9 : Int32) (t0 : Int32) (hk56 : ∀ (v6 : Int32) (v7 : Int32) (v8 : Int32) (v9 : Int32) (_ : kh56 v6 v7 v8 v9 = some y) (ls : Array Slot) (_ : lv_has ls 10 [(0, .ref o0), (1, .int v1), (2, .int v2), (3, .int v3), (4, .int v4), (5, .int v5), (6, .int v6), (7, .int v7), (8, .int v8), (9, .int v9)]), W p l e rm_Mo_came s m args below meth c s.heap [] 0 0 (MQ below (zSi y) args s 0 0 (fun _ => False)) (F0 m 56 ls [])) (hP : va_P (dC, dI) vwCl (wd_Mo_came cy o0 a0 (zI s0) (zL s0) (zA s0 16) (zA s0 17) (zA s0 18) (zA s0 19) (zA s0 21) (zA s0 39) (zA s0 40) (zA s0 41) (zA s0 42) (zA s0 43) (zA s0 44) (zA s0 45) (zA s0 46)) s.heap) (hf : Mo_came_b95 N kh56 s0 v1 v2 v3 v4 v5 v6 v9 t0 = some y) (ls : Array Slot) (hl : lv_has ls 10 [(0, .ref o0), (1, .int v1), (2, .int v2), (3, .int v3), (4, .int v4), (5, .int v5), (6, .int v6), (9, .int v9)]) : W p l e rm_Mo_came s m args below meth c s.heap [] 0 0 (MQ below (zSi y) args s 0 0 (fun _ => False)) (F0 m 95 ls [.int t0]) := by
  obtain ⟨hx, hb, hr, hml, hown, hT, hk, hK⟩ := id C0
  refine lv_istore (lv' := [(7, .int t0), (0, .ref o0), (1, .int v1), (2, .int v2), (3, .int v3), (4, .int v4), (5, .int v5), (6, .int v6), (9, .int v9)]) hx hb dX11_came_95 hl (by decide) rfl (fun ls hl => ?_)
  refine lv_iload hx hb dX11_came_97 (lv_at hl 8 rfl) ?_
  refine lv_istore (lv' := [(8, .int v9), (7, .int t0), (0, .ref o0), (1, .int v1), (2, .int v2), (3, .int v3), (4, .int v4), (5, .int v5), (6, .int v6), (9, .int v9)]) hx hb dX11_came_99 hl (by decide) rfl (fun ls hl => ?_)
  exact k_Mo_came_b101 C0 s0 v1 v2 v3 v4 v5 v6 t0 v9 v9 hk56 hP hf _ (lv_sub hl [2, 3, 4, 5, 6, 7, 8, 1, 0, 9] rfl)
set_option maxHeartbeats 4000000 in
set_option maxRecDepth 100000 in
theorem k_Mo_came_b56 {p : Program} {l : Launch} {e : Env} {s : State} {m : MethodId} {args : Array Value} {below : List Frame} {meth : Method} {c : Code} {dC : Nat → ClassId} {dI : Nat → Nat → Nat} {cy : Nat → ClassId} {o0 : Nat} {a0 : Nat → Nat} {N : Nat} {kh56 : Int32 → Int32 → Int32 → Int32 → Option (Int32)} {y : Int32} (C0 : zCx p s m args meth c cX11_came 10 (some .int) RX11 (dC, dI) cy) (s0 : zSt) (v1 : Int32) (v2 : Int32) (v3 : Int32) (v4 : Int32) (v5 : Int32) (v6 : Int32) (v7 : Int32) (v8 : Int32) (v9 : Int32) (hk56 : ∀ (v6 : Int32) (v7 : Int32) (v8 : Int32) (v9 : Int32) (_ : kh56 v6 v7 v8 v9 = some y) (ls : Array Slot) (_ : lv_has ls 10 [(0, .ref o0), (1, .int v1), (2, .int v2), (3, .int v3), (4, .int v4), (5, .int v5), (6, .int v6), (7, .int v7), (8, .int v8), (9, .int v9)]), W p l e rm_Mo_came s m args below meth c s.heap [] 0 0 (MQ below (zSi y) args s 0 0 (fun _ => False)) (F0 m 56 ls [])) (hP : va_P (dC, dI) vwCl (wd_Mo_came cy o0 a0 (zI s0) (zL s0) (zA s0 16) (zA s0 17) (zA s0 18) (zA s0 19) (zA s0 21) (zA s0 39) (zA s0 40) (zA s0 41) (zA s0 42) (zA s0 43) (zA s0 44) (zA s0 45) (zA s0 46)) s.heap) (hf : Mo_came_b56 N kh56 s0 v1 v2 v3 v4 v5 v6 v7 v8 v9 = some y) (ls : Array Slot) (hl : lv_has ls 10 [(0, .ref o0), (1, .int v1), (2, .int v2), (3, .int v3), (4, .int v4), (5, .int v5), (6, .int v6), (7, .int v7), (8, .int v8), (9, .int v9)]) : W p l e rm_Mo_came s m args below meth c s.heap [] 0 0 (MQ below (zSi y) args s 0 0 (fun _ => False)) (F0 m 56 ls []) := by
  obtain ⟨hx, hb, hr, hml, hown, hT, hk, hK⟩ := id C0
  refine lv_iload hx hb dX11_came_56 (lv_at hl 9 rfl) ?_
  refine lv_bipush (v := 96) hx hb dX11_came_58 (by decide) ?_
  refine lv_icmp_gt (tgt := 107) hx hb dX11_came_60 (by decide) (fun hb_1 => ?_) (fun hb_1 => ?_)
  · have hf := zif_t hb_1 hf
    refine lv_iload hx hb dX11_came_107 (lv_at hl 4 rfl) ?_
    refine lv_if_ne (tgt := 117) hx hb dX11_came_109 (by decide) (fun hb_2 => ?_) (fun hb_2 => ?_)
    · have hf := zif_f hb_2 hf
      refine lv_iload hx hb dX11_came_117 (lv_at hl 4 rfl) ?_
      refine lv_iconst (v := 1) hx hb dX11_came_119 (by decide) ?_
      refine lv_icmp_ne (tgt := 128) hx hb dX11_came_120 (by decide) (fun hb_3 => ?_) (fun hb_3 => ?_)
      · have hf := zif_f hb_3 hf
        refine lv_iload hx hb dX11_came_128 (lv_at hl 8 rfl) ?_
        cases hf
        exact zeri hx hb hr hk dX11_came_130
      · have hf := zif_t hb_3 hf
        refine lv_iload hx hb dX11_came_123 (lv_at hl 7 rfl) ?_
        refine lv_goto (tgt := 130) hx hb dX11_came_125 (by decide) ?_
        cases hf
        exact zeri hx hb hr hk dX11_came_130
    · have hf := zif_t hb_2 hf
      refine lv_iload hx hb dX11_came_112 (lv_at hl 6 rfl) ?_
      refine lv_goto (tgt := 130) hx hb dX11_came_114 (by decide) ?_
      cases hf
      exact zeri hx hb hr hk dX11_came_130
  · have hf := zif_f hb_1 hf
    refine lv_aload_n hx hb dX11_came_63 rfl (lv_at hl 0 rfl) ?_
    refine lv_iload_n hx hb dX11_came_64 rfl (lv_at hl 1 rfl) ?_
    refine lv_iload hx hb dX11_came_65 (lv_at hl 9 rfl) ?_
    refine lv_iload_n hx hb dX11_came_67 rfl (lv_at hl 2 rfl) ?_
    refine lv_iload_n hx hb dX11_came_68 rfl (lv_at hl 3 rfl) ?_
    refine lv_iload hx hb dX11_came_69 (lv_at hl 5 rfl) ?_
    obtain ⟨z4, hc5, hf⟩ := zbd_some hf
    refine zri (zV (As := [.int v1, .int v9, .int v2, .int v3, .int v5]) hx hb hml hown hT hl.1 (c_Mo_couldCome o0 a0 s0 v1 v9 v2 v3 v5 hc5) zY_Mo_couldCome tb_1446 (zpR hK hP [0, 1, 2, 4, 5, 6, 7, 8, 9, 10, 11, 12, 13] rfl 0 11 rfl rfl rfl) rm_ok_Mo_came_Mo_couldCome rfl rfl (Nat.le_of_ble_eq_true rfl) dX11_came_71 ⟨Nat.zero_le _, Nat.zero_le _⟩) ?_
    refine lv_if_ne (tgt := 80) hx hb dX11_came_74 (by decide) (fun hb_6 => ?_) (fun hb_6 => ?_)
    · have hf := zif_f hb_6 hf
      refine lv_iinc (v := v6 + 1) (lv' := [(6, .int (v6 + 1)), (0, .ref o0), (1, .int v1), (2, .int v2), (3, .int v3), (4, .int v4), (5, .int v5), (7, .int v7), (8, .int v8), (9, .int v9)]) hx hb dX11_came_80 hl (k := 6) rfl rfl (by decide) rfl (fun ls hl => ?_)
      refine lv_iload hx hb dX11_came_83 (lv_at hl 7 rfl) ?_
      refine lv_if_ge (tgt := 93) hx hb dX11_came_85 (by decide) (fun hb_7 => ?_) (fun hb_7 => ?_)
      · have hf := zif_t hb_7 hf
        refine lv_iload hx hb dX11_came_93 (lv_at hl 7 rfl) ?_
        exact k_Mo_came_b95 C0 s0 v1 v2 v3 v4 v5 (v6 + 1) v9 v7 hk56 hP hf _ (lv_sub hl [1, 2, 3, 4, 5, 6, 0, 9] rfl)
      · have hf := zif_f hb_7 hf
        refine lv_iload hx hb dX11_came_88 (lv_at hl 9 rfl) ?_
        refine lv_goto (tgt := 95) hx hb dX11_came_90 (by decide) ?_
        exact k_Mo_came_b95 C0 s0 v1 v2 v3 v4 v5 (v6 + 1) v9 v9 hk56 hP hf _ (lv_sub hl [1, 2, 3, 4, 5, 6, 0, 9] rfl)
    · have hf := zif_t hb_6 hf
      refine lv_goto (tgt := 101) hx hb dX11_came_77 (by decide) ?_
      exact k_Mo_came_b101 C0 s0 v1 v2 v3 v4 v5 v6 v7 v8 v9 hk56 hP hf _ (lv_sub hl [0, 1, 2, 3, 4, 5, 6, 7, 8, 9] rfl)
set_option maxHeartbeats 4000000 in
set_option maxRecDepth 100000 in
theorem k_Mo_came_h56 {p : Program} {l : Launch} {e : Env} {s : State} {m : MethodId} {args : Array Value} {below : List Frame} {meth : Method} {c : Code} {dC : Nat → ClassId} {dI : Nat → Nat → Nat} {cy : Nat → ClassId} {o0 : Nat} {a0 : Nat → Nat} {N : Nat} {y : Int32} (C0 : zCx p s m args meth c cX11_came 10 (some .int) RX11 (dC, dI) cy) (s0 : zSt) (v1 : Int32) (v2 : Int32) (v3 : Int32) (v4 : Int32) (v5 : Int32) (hP : va_P (dC, dI) vwCl (wd_Mo_came cy o0 a0 (zI s0) (zL s0) (zA s0 16) (zA s0 17) (zA s0 18) (zA s0 19) (zA s0 21) (zA s0 39) (zA s0 40) (zA s0 41) (zA s0 42) (zA s0 43) (zA s0 44) (zA s0 45) (zA s0 46)) s.heap) : ∀ (n : Nat) (v6 : Int32) (v7 : Int32) (v8 : Int32) (v9 : Int32) (hf : Mo_came_h56 N s0 v1 v2 v3 v4 v5 n v6 v7 v8 v9 = some y) (ls : Array Slot) (hl : lv_has ls 10 [(0, .ref o0), (1, .int v1), (2, .int v2), (3, .int v3), (4, .int v4), (5, .int v5), (6, .int v6), (7, .int v7), (8, .int v8), (9, .int v9)]), W p l e rm_Mo_came s m args below meth c s.heap [] 0 0 (MQ below (zSi y) args s 0 0 (fun _ => False)) (F0 m 56 ls []) := by
  intro n
  induction n with
  | zero => intro v6 v7 v8 v9 hf; cases hf
  | succ n ih =>
    intro v6 v7 v8 v9 hf ls hl
    have hf : Mo_came_b56 N (Mo_came_h56 N s0 v1 v2 v3 v4 v5 n) s0 v1 v2 v3 v4 v5 v6 v7 v8 v9 = some y := hf
    exact k_Mo_came_b56 C0 s0 v1 v2 v3 v4 v5 v6 v7 v8 v9 (fun v6 v7 v8 v9 hf ls hl => ih v6 v7 v8 v9 hf ls hl) hP hf ls hl
set_option maxHeartbeats 4000000 in
set_option maxRecDepth 100000 in
theorem k_Mo_came_b0 {p : Program} {l : Launch} {e : Env} {s : State} {m : MethodId} {args : Array Value} {below : List Frame} {meth : Method} {c : Code} {dC : Nat → ClassId} {dI : Nat → Nat → Nat} {cy : Nat → ClassId} {o0 : Nat} {a0 : Nat → Nat} {N : Nat} {y : Int32} (C0 : zCx p s m args meth c cX11_came 10 (some .int) RX11 (dC, dI) cy) (s0 : zSt) (v1 : Int32) (v2 : Int32) (v3 : Int32) (v4 : Int32) (v5 : Int32) (hP : va_P (dC, dI) vwCl (wd_Mo_came cy o0 a0 (zI s0) (zL s0) (zA s0 16) (zA s0 17) (zA s0 18) (zA s0 19) (zA s0 21) (zA s0 39) (zA s0 40) (zA s0 41) (zA s0 42) (zA s0 43) (zA s0 44) (zA s0 45) (zA s0 46)) s.heap) (hf : Mo_came_b0 N s0 v1 v2 v3 v4 v5 = some y) (ls : Array Slot) (hl : lv_has ls 10 [(0, .ref o0), (1, .int v1), (2, .int v2), (3, .int v3), (4, .int v4), (5, .int v5)]) : W p l e rm_Mo_came s m args below meth c s.heap [] 0 0 (MQ below (zSi y) args s 0 0 (fun _ => False)) (F0 m 0 ls []) := by
  obtain ⟨hx, hb, hr, hml, hown, hT, hk, hK⟩ := id C0
  refine lv_aload_n hx hb dX11_came_0 rfl (lv_at hl 0 rfl) ?_
  refine lv_iload_n hx hb dX11_came_1 rfl (lv_at hl 1 rfl) ?_
  obtain ⟨z1, hc2, hf⟩ := zbd_some hf
  refine zri (zV (As := [.int v1]) hx hb hml hown hT hl.1 (c_Mo_isBell o0 a0 s0 v1 hc2) zY_Mo_isBell tb_1315 (zpR hK hP [0] rfl 0 11 rfl rfl rfl) rm_ok_Mo_came_Mo_isBell rfl rfl (Nat.le_of_ble_eq_true rfl) dX11_came_2 ⟨Nat.zero_le _, Nat.zero_le _⟩) ?_
  refine lv_if_eq (tgt := 41) hx hb dX11_came_5 (by decide) (fun hb_3 => ?_) (fun hb_3 => ?_)
  · have hf := zif_t hb_3 hf
    refine lv_bipush (v := (-2)) hx hb dX11_came_41 (by decide) ?_
    cases hf
    exact zeri hx hb hr hk dX11_came_43
  · have hf := zif_f hb_3 hf
    refine lv_aload_n hx hb dX11_came_8 rfl (lv_at hl 0 rfl) ?_
    refine zget (v := .ref (a0 18)) hx hb hown hT hK hP inX11 rfl smX11 0 rfl 18 (by decide) tb_1020 rfl dX11_came_9 ?_
    refine lv_iload_n hx hb dX11_came_12 rfl (lv_at hl 1 rfl) ?_
    obtain ⟨hi4, hf⟩ := zck_some hf
    refine va_iald hx hb hK.1 hP 3 0 rfl rfl hi4 dX11_came_13 ?_
    refine lv_if_ge (tgt := 41) hx hb dX11_came_14 (by decide) (fun hb_5 => ?_) (fun hb_5 => ?_)
    · have hf := zif_t hb_5 hf
      refine lv_bipush (v := (-2)) hx hb dX11_came_41 (by decide) ?_
      cases hf
      exact zeri hx hb hr hk dX11_came_43
    · have hf := zif_f hb_5 hf
      refine lv_iload_n hx hb dX11_came_17 rfl (lv_at hl 2 rfl) ?_
      obtain ⟨z6, hc7, hf⟩ := zbd_some hf
      refine zri (zS (As := [.int v2]) hx hb hml hown hT hl.1 (c_Mo_isPlace v2 hc7) zY_Mo_isPlace tb_1364 (zpS hK hP [] rfl) rm_ok_Mo_came_Mo_isPlace rfl rfl (Nat.le_of_ble_eq_true rfl) dX11_came_18 ⟨Nat.zero_le _, Nat.zero_le _⟩) ?_
      refine lv_if_eq (tgt := 41) hx hb dX11_came_21 (by decide) (fun hb_8 => ?_) (fun hb_8 => ?_)
      · have hf := zif_t hb_8 hf
        refine lv_bipush (v := (-2)) hx hb dX11_came_41 (by decide) ?_
        cases hf
        exact zeri hx hb hr hk dX11_came_43
      · have hf := zif_f hb_8 hf
        refine lv_iload_n hx hb dX11_came_24 rfl (lv_at hl 3 rfl) ?_
        obtain ⟨z9, hc10, hf⟩ := zbd_some hf
        refine zri (zS (As := [.int v3]) hx hb hml hown hT hl.1 (c_Mo_isWind v3 hc10) zY_Mo_isWind tb_1367 (zpS hK hP [] rfl) rm_ok_Mo_came_Mo_isWind rfl rfl (Nat.le_of_ble_eq_true rfl) dX11_came_25 ⟨Nat.zero_le _, Nat.zero_le _⟩) ?_
        refine lv_if_eq (tgt := 41) hx hb dX11_came_28 (by decide) (fun hb_11 => ?_) (fun hb_11 => ?_)
        · have hf := zif_t hb_11 hf
          refine lv_bipush (v := (-2)) hx hb dX11_came_41 (by decide) ?_
          cases hf
          exact zeri hx hb hr hk dX11_came_43
        · have hf := zif_f hb_11 hf
          refine lv_iload hx hb dX11_came_31 (lv_at hl 4 rfl) ?_
          refine lv_iconst (v := 0) hx hb dX11_came_33 (by decide) ?_
          refine lv_iconst (v := 2) hx hb dX11_came_34 (by decide) ?_
          obtain ⟨z12, hc13, hf⟩ := zbd_some hf
          refine zri (zS (As := [.int v4, .int 0, .int 2]) hx hb hml hown hT hl.1 (c_Mo_isIn v4 0 2 hc13) zY_Mo_isIn tb_1319 (zpS hK hP [] rfl) rm_ok_Mo_came_Mo_isIn rfl rfl (Nat.le_of_ble_eq_true rfl) dX11_came_35 ⟨Nat.zero_le _, Nat.zero_le _⟩) ?_
          refine lv_if_ne (tgt := 44) hx hb dX11_came_38 (by decide) (fun hb_14 => ?_) (fun hb_14 => ?_)
          · have hf := zif_f hb_14 hf
            refine lv_iconst (v := 0) hx hb dX11_came_44 (by decide) ?_
            refine lv_istore (lv' := [(6, .int 0), (0, .ref o0), (1, .int v1), (2, .int v2), (3, .int v3), (4, .int v4), (5, .int v5)]) hx hb dX11_came_45 hl (by decide) rfl (fun ls hl => ?_)
            refine lv_iconst (v := (-1)) hx hb dX11_came_47 (by decide) ?_
            refine lv_istore (lv' := [(7, .int (-1)), (6, .int 0), (0, .ref o0), (1, .int v1), (2, .int v2), (3, .int v3), (4, .int v4), (5, .int v5)]) hx hb dX11_came_48 hl (by decide) rfl (fun ls hl => ?_)
            refine lv_iconst (v := (-1)) hx hb dX11_came_50 (by decide) ?_
            refine lv_istore (lv' := [(8, .int (-1)), (7, .int (-1)), (6, .int 0), (0, .ref o0), (1, .int v1), (2, .int v2), (3, .int v3), (4, .int v4), (5, .int v5)]) hx hb dX11_came_51 hl (by decide) rfl (fun ls hl => ?_)
            refine lv_iconst (v := 0) hx hb dX11_came_53 (by decide) ?_
            refine lv_istore (lv' := [(9, .int 0), (8, .int (-1)), (7, .int (-1)), (6, .int 0), (0, .ref o0), (1, .int v1), (2, .int v2), (3, .int v3), (4, .int v4), (5, .int v5)]) hx hb dX11_came_54 hl (by decide) rfl (fun ls hl => ?_)
            exact k_Mo_came_h56 C0 s0 v1 v2 v3 v4 v5  hP N 0 (-1) (-1) 0 hf _ (lv_sub hl [4, 5, 6, 7, 8, 9, 3, 2, 1, 0] rfl)
          · have hf := zif_t hb_14 hf
            refine lv_bipush (v := (-2)) hx hb dX11_came_41 (by decide) ?_
            cases hf
            exact zeri hx hb hr hk dX11_came_43
set_option maxHeartbeats 4000000 in
set_option maxRecDepth 100000 in
theorem c_Mo_came {l : Launch} {dC : Nat → ClassId} {dI : Nat → Nat → Nat} {cy : Nat → ClassId} {N : Nat} (o0 : Nat) (a0 : Nat → Nat) (s0 : zSt) (v1 : Int32) (v2 : Int32) (v3 : Int32) (v4 : Int32) (v5 : Int32) {y : Int32} (hf : Mo_came N s0 v1 v2 v3 v4 v5 = some y) : Met l yX11_came (.code yX11_came cX11_came 10 (some .int) :: zt) rm_Mo_came (va_Pc [.ref o0, .int v1, .int v2, .int v3, .int v4, .int v5] (zRd (dC, dI) cy (wd_Mo_came cy o0 a0 (zI s0) (zL s0) (zA s0 16) (zA s0 17) (zA s0 18) (zA s0 19) (zA s0 21) (zA s0 39) (zA s0 40) (zA s0 41) (zA s0 42) (zA s0 43) (zA s0 44) (zA s0 45) (zA s0 46)))) (zSi y) 0 0 (fun _ => False) :=
  zentR (by decide +kernel) (Nat.le_of_ble_eq_true rfl) (fun p e s m below meth c C0 hP ls hl => k_Mo_came_b0 C0 s0 v1 v2 v3 v4 v5 hP hf ls hl)
def wd_Mo_tonesIn (cy : Nat → ClassId) (o0 : Nat) (a0 : Nat → Nat) (g0 : Nat → Int32) (h0 : Nat → Int64) (x0_16 : Nat → Int32) (x0_21 : Nat → Int32) (x0_56 : Nat → Int32) : va_W := [(o0, .inr (11, fs_Mo a0 g0 h0)), (a0 16, .inl (cy 0, 11, .inl x0_16)), (a0 21, .inl (cy 0, 9, .inl x0_21)), (a0 56, .inl (cy 0, 9, .inl x0_56))]
def rm_Mo_tonesIn : Room := { frames := 2, cells := 0, slots := 0, locals := 60 }
theorem rm_ok_Mo_tonesIn_Mo_modulo : rm_Mo_modulo.cells = 0 ∧ rm_Mo_modulo.slots = 0 ∧ rm_Mo_modulo.frames + 1 ≤ rm_Mo_tonesIn.frames ∧ 8 + (1 + 11) + rm_Mo_modulo.locals ≤ rm_Mo_tonesIn.locals := by decide
set_option maxHeartbeats 4000000 in
set_option maxRecDepth 100000 in
theorem k_Mo_tonesIn_b4 {p : Program} {l : Launch} {e : Env} {s : State} {m : MethodId} {args : Array Value} {below : List Frame} {meth : Method} {c : Code} {dC : Nat → ClassId} {dI : Nat → Nat → Nat} {cy : Nat → ClassId} {o0 : Nat} {a0 : Nat → Nat} {N : Nat} {kh4 : Int32 → Int32 → Option (Int32)} {y : Int32} (C0 : zCx p s m args meth c cX11_tonesIn 4 (some .int) RX11 (dC, dI) cy) (s0 : zSt) (v1 : Int32) (v2 : Int32) (v3 : Int32) (hk4 : ∀ (v2 : Int32) (v3 : Int32) (_ : kh4 v2 v3 = some y) (ls : Array Slot) (_ : lv_has ls 4 [(0, .ref o0), (1, .int v1), (2, .int v2), (3, .int v3)]), W p l e rm_Mo_tonesIn s m args below meth c s.heap [] 0 0 (MQ below (zSi y) args s 0 0 (fun _ => False)) (F0 m 4 ls [])) (hP : va_P (dC, dI) vwCl (wd_Mo_tonesIn cy o0 a0 (zI s0) (zL s0) (zA s0 16) (zA s0 21) (zA s0 56)) s.heap) (hf : Mo_tonesIn_b4 N kh4 s0 v1 v2 v3 = some y) (ls : Array Slot) (hl : lv_has ls 4 [(0, .ref o0), (1, .int v1), (2, .int v2), (3, .int v3)]) : W p l e rm_Mo_tonesIn s m args below meth c s.heap [] 0 0 (MQ below (zSi y) args s 0 0 (fun _ => False)) (F0 m 4 ls []) := by
  obtain ⟨hx, hb, hr, hml, hown, hT, hk, hK⟩ := id C0
  refine lv_iload_n hx hb dX11_tonesIn_4 rfl (lv_at hl 3 rfl) ?_
  refine lv_aload_n hx hb dX11_tonesIn_5 rfl (lv_at hl 0 rfl) ?_
  refine zget (v := .int (zI s0 30)) hx hb hown hT hK hP inX11 rfl smX11 0 rfl 30 (by decide) tb_1032 rfl dX11_tonesIn_6 ?_
  refine lv_icmp_ge (tgt := 46) hx hb dX11_tonesIn_9 (by decide) (fun hb_1 => ?_) (fun hb_1 => ?_)
  · have hf := zif_t hb_1 hf
    refine lv_iload_n hx hb dX11_tonesIn_46 rfl (lv_at hl 2 rfl) ?_
    cases hf
    exact zeri hx hb hr hk dX11_tonesIn_47
  · have hf := zif_f hb_1 hf
    refine lv_iload_n hx hb dX11_tonesIn_12 rfl (lv_at hl 2 rfl) ?_
    refine lv_iconst (v := 1) hx hb dX11_tonesIn_13 (by decide) ?_
    refine lv_aload_n hx hb dX11_tonesIn_14 rfl (lv_at hl 0 rfl) ?_
    refine zget (v := .ref (a0 16)) hx hb hown hT hK hP inX11 rfl smX11 0 rfl 16 (by decide) tb_1018 rfl dX11_tonesIn_15 ?_
    refine lv_aload_n hx hb dX11_tonesIn_18 rfl (lv_at hl 0 rfl) ?_
    refine zget (v := .ref (a0 21)) hx hb hown hT hK hP inX11 rfl smX11 0 rfl 21 (by decide) tb_1023 rfl dX11_tonesIn_19 ?_
    refine lv_iload_n hx hb dX11_tonesIn_22 rfl (lv_at hl 3 rfl) ?_
    obtain ⟨hi2, hf⟩ := zck_some hf
    refine va_iald hx hb hK.1 hP 2 0 rfl rfl hi2 dX11_tonesIn_23 ?_
    obtain ⟨hi3, hf⟩ := zck_some hf
    refine va_iald hx hb hK.1 hP 1 0 rfl rfl hi3 dX11_tonesIn_24 ?_
    refine lv_aload_n hx hb dX11_tonesIn_25 rfl (lv_at hl 0 rfl) ?_
    refine zget (v := .ref (a0 56)) hx hb hown hT hK hP inX11 rfl smX11 0 rfl 56 (by decide) tb_1058 rfl dX11_tonesIn_26 ?_
    refine lv_iload_n hx hb dX11_tonesIn_29 rfl (lv_at hl 3 rfl) ?_
    obtain ⟨hi4, hf⟩ := zck_some hf
    refine va_iald hx hb hK.1 hP 3 0 rfl rfl hi4 dX11_tonesIn_30 ?_
    refine lv_iload_n hx hb dX11_tonesIn_31 rfl (lv_at hl 1 rfl) ?_
    refine lv_imul hx hb dX11_tonesIn_32 ?_
    refine lv_isub hx hb dX11_tonesIn_33 ?_
    obtain ⟨z5, hc6, hf⟩ := zbd_some hf
    refine zri (zS (As := [.int (((zA s0 16) (Int32.toNatClampNeg ((zA s0 21) (Int32.toNatClampNeg v3)))) - (((zA s0 56) (Int32.toNatClampNeg v3)) * v1))]) hx hb hml hown hT hl.1 (c_Mo_modulo (((zA s0 16) (Int32.toNatClampNeg ((zA s0 21) (Int32.toNatClampNeg v3)))) - (((zA s0 56) (Int32.toNatClampNeg v3)) * v1)) hc6) zY_Mo_modulo tb_1326 (zpS hK hP [] rfl) rm_ok_Mo_tonesIn_Mo_modulo rfl rfl (Nat.le_of_ble_eq_true rfl) dX11_tonesIn_34 ⟨Nat.zero_le _, Nat.zero_le _⟩) ?_
    refine lv_ishl hx hb dX11_tonesIn_37 ?_
    refine lv_ior hx hb dX11_tonesIn_38 ?_
    refine lv_istore_n (lv' := [(2, .int (v2 ||| ((1 : Int32) <<< (z5 &&& 31)))), (0, .ref o0), (1, .int v1), (3, .int v3)]) hx hb dX11_tonesIn_39 rfl hl (by decide) rfl (fun ls hl => ?_)
    refine lv_iinc (v := v3 + 1) (lv' := [(3, .int (v3 + 1)), (2, .int (v2 ||| ((1 : Int32) <<< (z5 &&& 31)))), (0, .ref o0), (1, .int v1)]) hx hb dX11_tonesIn_40 hl (k := 3) rfl rfl (by decide) rfl (fun ls hl => ?_)
    refine lv_goto (tgt := 4) hx hb dX11_tonesIn_43 (by decide) ?_
    exact hk4 (v2 ||| ((1 : Int32) <<< (z5 &&& 31))) (v3 + 1) hf _ (lv_sub hl [2, 3, 1, 0] rfl)
set_option maxHeartbeats 4000000 in
set_option maxRecDepth 100000 in
theorem k_Mo_tonesIn_h4 {p : Program} {l : Launch} {e : Env} {s : State} {m : MethodId} {args : Array Value} {below : List Frame} {meth : Method} {c : Code} {dC : Nat → ClassId} {dI : Nat → Nat → Nat} {cy : Nat → ClassId} {o0 : Nat} {a0 : Nat → Nat} {N : Nat} {y : Int32} (C0 : zCx p s m args meth c cX11_tonesIn 4 (some .int) RX11 (dC, dI) cy) (s0 : zSt) (v1 : Int32) (hP : va_P (dC, dI) vwCl (wd_Mo_tonesIn cy o0 a0 (zI s0) (zL s0) (zA s0 16) (zA s0 21) (zA s0 56)) s.heap) : ∀ (n : Nat) (v2 : Int32) (v3 : Int32) (hf : Mo_tonesIn_h4 N s0 v1 n v2 v3 = some y) (ls : Array Slot) (hl : lv_has ls 4 [(0, .ref o0), (1, .int v1), (2, .int v2), (3, .int v3)]), W p l e rm_Mo_tonesIn s m args below meth c s.heap [] 0 0 (MQ below (zSi y) args s 0 0 (fun _ => False)) (F0 m 4 ls []) := by
  intro n
  induction n with
  | zero => intro v2 v3 hf; cases hf
  | succ n ih =>
    intro v2 v3 hf ls hl
    have hf : Mo_tonesIn_b4 N (Mo_tonesIn_h4 N s0 v1 n) s0 v1 v2 v3 = some y := hf
    exact k_Mo_tonesIn_b4 C0 s0 v1 v2 v3 (fun v2 v3 hf ls hl => ih v2 v3 hf ls hl) hP hf ls hl
set_option maxHeartbeats 4000000 in
set_option maxRecDepth 100000 in
theorem k_Mo_tonesIn_b0 {p : Program} {l : Launch} {e : Env} {s : State} {m : MethodId} {args : Array Value} {below : List Frame} {meth : Method} {c : Code} {dC : Nat → ClassId} {dI : Nat → Nat → Nat} {cy : Nat → ClassId} {o0 : Nat} {a0 : Nat → Nat} {N : Nat} {y : Int32} (C0 : zCx p s m args meth c cX11_tonesIn 4 (some .int) RX11 (dC, dI) cy) (s0 : zSt) (v1 : Int32) (hP : va_P (dC, dI) vwCl (wd_Mo_tonesIn cy o0 a0 (zI s0) (zL s0) (zA s0 16) (zA s0 21) (zA s0 56)) s.heap) (hf : Mo_tonesIn_b0 N s0 v1 = some y) (ls : Array Slot) (hl : lv_has ls 4 [(0, .ref o0), (1, .int v1)]) : W p l e rm_Mo_tonesIn s m args below meth c s.heap [] 0 0 (MQ below (zSi y) args s 0 0 (fun _ => False)) (F0 m 0 ls []) := by
  obtain ⟨hx, hb, hr, hml, hown, hT, hk, hK⟩ := id C0
  refine lv_iconst (v := 0) hx hb dX11_tonesIn_0 (by decide) ?_
  refine lv_istore_n (lv' := [(2, .int 0), (0, .ref o0), (1, .int v1)]) hx hb dX11_tonesIn_1 rfl hl (by decide) rfl (fun ls hl => ?_)
  refine lv_iconst (v := 0) hx hb dX11_tonesIn_2 (by decide) ?_
  refine lv_istore_n (lv' := [(3, .int 0), (2, .int 0), (0, .ref o0), (1, .int v1)]) hx hb dX11_tonesIn_3 rfl hl (by decide) rfl (fun ls hl => ?_)
  exact k_Mo_tonesIn_h4 C0 s0 v1  hP N 0 0 hf _ (lv_sub hl [2, 3, 1, 0] rfl)
set_option maxHeartbeats 4000000 in
set_option maxRecDepth 100000 in
theorem c_Mo_tonesIn {l : Launch} {dC : Nat → ClassId} {dI : Nat → Nat → Nat} {cy : Nat → ClassId} {N : Nat} (o0 : Nat) (a0 : Nat → Nat) (s0 : zSt) (v1 : Int32) {y : Int32} (hf : Mo_tonesIn N s0 v1 = some y) : Met l yX11_tonesIn (.code yX11_tonesIn cX11_tonesIn 4 (some .int) :: zt) rm_Mo_tonesIn (va_Pc [.ref o0, .int v1] (zRd (dC, dI) cy (wd_Mo_tonesIn cy o0 a0 (zI s0) (zL s0) (zA s0 16) (zA s0 21) (zA s0 56)))) (zSi y) 0 0 (fun _ => False) :=
  zentR (by decide +kernel) (Nat.le_of_ble_eq_true rfl) (fun p e s m below meth c C0 hP ls hl => k_Mo_tonesIn_b0 C0 s0 v1 hP hf ls hl)
def wd_Mo_areEvenings (cy : Nat → ClassId) (o0 : Nat) (a0 : Nat → Nat) (g0 : Nat → Int32) (h0 : Nat → Int64) (x0_16 : Nat → Int32) (x0_21 : Nat → Int32) (x0_39 : Nat → Int32) (x0_40 : Nat → Int32) (x0_42 : Nat → Int32) (x0_45 : Nat → Int32) (x0_46 : Nat → Int32) (x0_56 : Nat → Int32) : va_W := [(o0, .inr (11, fs_Mo a0 g0 h0)), (a0 16, .inl (cy 0, 11, .inl x0_16)), (a0 21, .inl (cy 0, 9, .inl x0_21)), (a0 39, .inl (cy 0, 40, .inl x0_39)), (a0 40, .inl (cy 0, 40, .inl x0_40)), (a0 42, .inl (cy 0, 40, .inl x0_42)), (a0 45, .inl (cy 0, 40, .inl x0_45)), (a0 46, .inl (cy 0, 40, .inl x0_46)), (a0 56, .inl (cy 0, 9, .inl x0_56))]
def rm_Mo_areEvenings : Room := { frames := 3, cells := 0, slots := 0, locals := 83 }
theorem rm_ok_Mo_areEvenings_Mo_counts : rm_Mo_counts.cells = 0 ∧ rm_Mo_counts.slots = 0 ∧ rm_Mo_counts.frames + 1 ≤ rm_Mo_areEvenings.frames ∧ 8 + (4 + 11) + rm_Mo_counts.locals ≤ rm_Mo_areEvenings.locals := by decide
theorem rm_ok_Mo_areEvenings_Mo_tonesIn : rm_Mo_tonesIn.cells = 0 ∧ rm_Mo_tonesIn.slots = 0 ∧ rm_Mo_tonesIn.frames + 1 ≤ rm_Mo_areEvenings.frames ∧ 8 + (4 + 11) + rm_Mo_tonesIn.locals ≤ rm_Mo_areEvenings.locals := by decide
set_option maxHeartbeats 4000000 in
set_option maxRecDepth 100000 in
theorem k_Mo_areEvenings_b52 {p : Program} {l : Launch} {e : Env} {s : State} {m : MethodId} {args : Array Value} {below : List Frame} {meth : Method} {c : Code} {dC : Nat → ClassId} {dI : Nat → Nat → Nat} {cy : Nat → ClassId} {o0 : Nat} {a0 : Nat → Nat} {N : Nat} {kh5 : Int32 → Int32 → Option (Int32)} {y : Int32} (C0 : zCx p s m args meth c cX11_areEvenings 5 (some .boolean) RX11 (dC, dI) cy) (s0 : zSt) (v1 : Int32) (v2 : Int32) (v4 : Int32) (t0 : Int32) (hk5 : ∀ (v3 : Int32) (v4 : Int32) (_ : kh5 v3 v4 = some y) (ls : Array Slot) (_ : lv_has ls 5 [(0, .ref o0), (1, .int v1), (2, .int v2), (3, .int v3), (4, .int v4)]), W p l e rm_Mo_areEvenings s m args below meth c s.heap [] 0 0 (MQ below (zSi y) args s 0 0 (fun _ => False)) (F0 m 5 ls [])) (hP : va_P (dC, dI) vwCl (wd_Mo_areEvenings cy o0 a0 (zI s0) (zL s0) (zA s0 16) (zA s0 21) (zA s0 39) (zA s0 40) (zA s0 42) (zA s0 45) (zA s0 46) (zA s0 56)) s.heap) (hf : Mo_areEvenings_b52 N kh5 s0 v1 v2 v4 t0 = some y) (ls : Array Slot) (hl : lv_has ls 5 [(0, .ref o0), (1, .int v1), (2, .int v2), (4, .int v4)]) : W p l e rm_Mo_areEvenings s m args below meth c s.heap [] 0 0 (MQ below (zSi y) args s 0 0 (fun _ => False)) (F0 m 52 ls [.int t0]) := by
  obtain ⟨hx, hb, hr, hml, hown, hT, hk, hK⟩ := id C0
  refine lv_istore_n (lv' := [(3, .int t0), (0, .ref o0), (1, .int v1), (2, .int v2), (4, .int v4)]) hx hb dX11_areEvenings_52 rfl hl (by decide) rfl (fun ls hl => ?_)
  refine lv_iinc (v := v4 + 1) (lv' := [(4, .int (v4 + 1)), (3, .int t0), (0, .ref o0), (1, .int v1), (2, .int v2)]) hx hb dX11_areEvenings_53 hl (k := 4) rfl rfl (by decide) rfl (fun ls hl => ?_)
  refine lv_goto (tgt := 5) hx hb dX11_areEvenings_56 (by decide) ?_
  exact hk5 t0 (v4 + 1) hf _ (lv_sub hl [2, 3, 4, 1, 0] rfl)
set_option maxHeartbeats 4000000 in
set_option maxRecDepth 100000 in
theorem k_Mo_areEvenings_b47 {p : Program} {l : Launch} {e : Env} {s : State} {m : MethodId} {args : Array Value} {below : List Frame} {meth : Method} {c : Code} {dC : Nat → ClassId} {dI : Nat → Nat → Nat} {cy : Nat → ClassId} {o0 : Nat} {a0 : Nat → Nat} {N : Nat} {kh5 : Int32 → Int32 → Option (Int32)} {y : Int32} (C0 : zCx p s m args meth c cX11_areEvenings 5 (some .boolean) RX11 (dC, dI) cy) (s0 : zSt) (v1 : Int32) (v2 : Int32) (v4 : Int32) (hk5 : ∀ (v3 : Int32) (v4 : Int32) (_ : kh5 v3 v4 = some y) (ls : Array Slot) (_ : lv_has ls 5 [(0, .ref o0), (1, .int v1), (2, .int v2), (3, .int v3), (4, .int v4)]), W p l e rm_Mo_areEvenings s m args below meth c s.heap [] 0 0 (MQ below (zSi y) args s 0 0 (fun _ => False)) (F0 m 5 ls [])) (hP : va_P (dC, dI) vwCl (wd_Mo_areEvenings cy o0 a0 (zI s0) (zL s0) (zA s0 16) (zA s0 21) (zA s0 39) (zA s0 40) (zA s0 42) (zA s0 45) (zA s0 46) (zA s0 56)) s.heap) (hf : Mo_areEvenings_b47 N kh5 s0 v1 v2 v4 = some y) (ls : Array Slot) (hl : lv_has ls 5 [(0, .ref o0), (1, .int v1), (2, .int v2), (4, .int v4)]) : W p l e rm_Mo_areEvenings s m args below meth c s.heap [] 0 0 (MQ below (zSi y) args s 0 0 (fun _ => False)) (F0 m 47 ls []) := by
  obtain ⟨hx, hb, hr, hml, hown, hT, hk, hK⟩ := id C0
  refine lv_iconst (v := 1) hx hb dX11_areEvenings_47 (by decide) ?_
  refine lv_goto (tgt := 52) hx hb dX11_areEvenings_48 (by decide) ?_
  exact k_Mo_areEvenings_b52 C0 s0 v1 v2 v4 1 hk5 hP hf _ (lv_sub hl [0, 1, 2, 3] rfl)
set_option maxHeartbeats 4000000 in
set_option maxRecDepth 100000 in
theorem k_Mo_areEvenings_b5 {p : Program} {l : Launch} {e : Env} {s : State} {m : MethodId} {args : Array Value} {below : List Frame} {meth : Method} {c : Code} {dC : Nat → ClassId} {dI : Nat → Nat → Nat} {cy : Nat → ClassId} {o0 : Nat} {a0 : Nat → Nat} {N : Nat} {kh5 : Int32 → Int32 → Option (Int32)} {y : Int32} (C0 : zCx p s m args meth c cX11_areEvenings 5 (some .boolean) RX11 (dC, dI) cy) (s0 : zSt) (v1 : Int32) (v2 : Int32) (v3 : Int32) (v4 : Int32) (hk5 : ∀ (v3 : Int32) (v4 : Int32) (_ : kh5 v3 v4 = some y) (ls : Array Slot) (_ : lv_has ls 5 [(0, .ref o0), (1, .int v1), (2, .int v2), (3, .int v3), (4, .int v4)]), W p l e rm_Mo_areEvenings s m args below meth c s.heap [] 0 0 (MQ below (zSi y) args s 0 0 (fun _ => False)) (F0 m 5 ls [])) (hP : va_P (dC, dI) vwCl (wd_Mo_areEvenings cy o0 a0 (zI s0) (zL s0) (zA s0 16) (zA s0 21) (zA s0 39) (zA s0 40) (zA s0 42) (zA s0 45) (zA s0 46) (zA s0 56)) s.heap) (hf : Mo_areEvenings_b5 N kh5 s0 v1 v2 v3 v4 = some y) (ls : Array Slot) (hl : lv_has ls 5 [(0, .ref o0), (1, .int v1), (2, .int v2), (3, .int v3), (4, .int v4)]) : W p l e rm_Mo_areEvenings s m args below meth c s.heap [] 0 0 (MQ below (zSi y) args s 0 0 (fun _ => False)) (F0 m 5 ls []) := by
  obtain ⟨hx, hb, hr, hml, hown, hT, hk, hK⟩ := id C0
  refine lv_iload hx hb dX11_areEvenings_5 (lv_at hl 4 rfl) ?_
  refine lv_iload_n hx hb dX11_areEvenings_7 rfl (lv_at hl 2 rfl) ?_
  refine lv_icmp_gt (tgt := 59) hx hb dX11_areEvenings_8 (by decide) (fun hb_1 => ?_) (fun hb_1 => ?_)
  · have hf := zif_t hb_1 hf
    refine lv_iload_n hx hb dX11_areEvenings_59 rfl (lv_at hl 3 rfl) ?_
    obtain ⟨hq2, hf⟩ := zcb_some hf
    cases hf
    exact zerz hx hb hr hk hq2 dX11_areEvenings_60
  · have hf := zif_f hb_1 hf
    refine lv_iload_n hx hb dX11_areEvenings_11 rfl (lv_at hl 3 rfl) ?_
    refine lv_if_eq (tgt := 59) hx hb dX11_areEvenings_12 (by decide) (fun hb_3 => ?_) (fun hb_3 => ?_)
    · have hf := zif_t hb_3 hf
      refine lv_iload_n hx hb dX11_areEvenings_59 rfl (lv_at hl 3 rfl) ?_
      obtain ⟨hq4, hf⟩ := zcb_some hf
      cases hf
      exact zerz hx hb hr hk hq4 dX11_areEvenings_60
    · have hf := zif_f hb_3 hf
      refine lv_aload_n hx hb dX11_areEvenings_15 rfl (lv_at hl 0 rfl) ?_
      refine lv_iload hx hb dX11_areEvenings_16 (lv_at hl 4 rfl) ?_
      refine lv_iconst (v := 1) hx hb dX11_areEvenings_18 (by decide) ?_
      refine lv_iload_n hx hb dX11_areEvenings_19 rfl (lv_at hl 1 rfl) ?_
      obtain ⟨z5, hc6, hf⟩ := zbd_some hf
      refine zri (zV (As := [.int v4, .int 1, .int v1]) hx hb hml hown hT hl.1 (c_Mo_counts o0 a0 s0 v4 1 v1 hc6) zY_Mo_counts tb_1414 (zpR hK hP [0, 3, 6, 7] rfl 0 11 rfl rfl rfl) rm_ok_Mo_areEvenings_Mo_counts rfl rfl (Nat.le_of_ble_eq_true rfl) dX11_areEvenings_20 ⟨Nat.zero_le _, Nat.zero_le _⟩) ?_
      refine lv_if_eq (tgt := 47) hx hb dX11_areEvenings_23 (by decide) (fun hb_7 => ?_) (fun hb_7 => ?_)
      · have hf := zif_t hb_7 hf
        exact k_Mo_areEvenings_b47 C0 s0 v1 v2 v4 hk5 hP hf _ (lv_sub hl [0, 1, 2, 4] rfl)
      · have hf := zif_f hb_7 hf
        refine lv_aload_n hx hb dX11_areEvenings_26 rfl (lv_at hl 0 rfl) ?_
        refine lv_aload_n hx hb dX11_areEvenings_27 rfl (lv_at hl 0 rfl) ?_
        refine zget (v := .ref (a0 40)) hx hb hown hT hK hP inX11 rfl smX11 0 rfl 40 (by decide) tb_1042 rfl dX11_areEvenings_28 ?_
        refine lv_iload hx hb dX11_areEvenings_31 (lv_at hl 4 rfl) ?_
        obtain ⟨hi8, hf⟩ := zck_some hf
        refine va_iald hx hb hK.1 hP 4 0 rfl rfl hi8 dX11_areEvenings_33 ?_
        obtain ⟨z9, hc10, hf⟩ := zbd_some hf
        refine zri (zV (As := [.int ((zA s0 40) (Int32.toNatClampNeg v4))]) hx hb hml hown hT hl.1 (c_Mo_tonesIn o0 a0 s0 ((zA s0 40) (Int32.toNatClampNeg v4)) hc10) zY_Mo_tonesIn tb_1462 (zpR hK hP [0, 1, 2, 8] rfl 0 11 rfl rfl rfl) rm_ok_Mo_areEvenings_Mo_tonesIn rfl rfl (Nat.le_of_ble_eq_true rfl) dX11_areEvenings_34 ⟨Nat.zero_le _, Nat.zero_le _⟩) ?_
        refine lv_aload_n hx hb dX11_areEvenings_37 rfl (lv_at hl 0 rfl) ?_
        refine zget (v := .ref (a0 42)) hx hb hown hT hK hP inX11 rfl smX11 0 rfl 42 (by decide) tb_1044 rfl dX11_areEvenings_38 ?_
        refine lv_iload hx hb dX11_areEvenings_41 (lv_at hl 4 rfl) ?_
        obtain ⟨hi11, hf⟩ := zck_some hf
        refine va_iald hx hb hK.1 hP 5 0 rfl rfl hi11 dX11_areEvenings_43 ?_
        refine lv_icmp_ne (tgt := 51) hx hb dX11_areEvenings_44 (by decide) (fun hb_12 => ?_) (fun hb_12 => ?_)
        · have hf := zif_f hb_12 hf
          refine lv_iconst (v := 0) hx hb dX11_areEvenings_51 (by decide) ?_
          exact k_Mo_areEvenings_b52 C0 s0 v1 v2 v4 0 hk5 hP hf _ (lv_sub hl [0, 1, 2, 4] rfl)
        · have hf := zif_t hb_12 hf
          exact k_Mo_areEvenings_b47 C0 s0 v1 v2 v4 hk5 hP hf _ (lv_sub hl [0, 1, 2, 4] rfl)
set_option maxHeartbeats 4000000 in
set_option maxRecDepth 100000 in
theorem k_Mo_areEvenings_h5 {p : Program} {l : Launch} {e : Env} {s : State} {m : MethodId} {args : Array Value} {below : List Frame} {meth : Method} {c : Code} {dC : Nat → ClassId} {dI : Nat → Nat → Nat} {cy : Nat → ClassId} {o0 : Nat} {a0 : Nat → Nat} {N : Nat} {y : Int32} (C0 : zCx p s m args meth c cX11_areEvenings 5 (some .boolean) RX11 (dC, dI) cy) (s0 : zSt) (v1 : Int32) (v2 : Int32) (hP : va_P (dC, dI) vwCl (wd_Mo_areEvenings cy o0 a0 (zI s0) (zL s0) (zA s0 16) (zA s0 21) (zA s0 39) (zA s0 40) (zA s0 42) (zA s0 45) (zA s0 46) (zA s0 56)) s.heap) : ∀ (n : Nat) (v3 : Int32) (v4 : Int32) (hf : Mo_areEvenings_h5 N s0 v1 v2 n v3 v4 = some y) (ls : Array Slot) (hl : lv_has ls 5 [(0, .ref o0), (1, .int v1), (2, .int v2), (3, .int v3), (4, .int v4)]), W p l e rm_Mo_areEvenings s m args below meth c s.heap [] 0 0 (MQ below (zSi y) args s 0 0 (fun _ => False)) (F0 m 5 ls []) := by
  intro n
  induction n with
  | zero => intro v3 v4 hf; cases hf
  | succ n ih =>
    intro v3 v4 hf ls hl
    have hf : Mo_areEvenings_b5 N (Mo_areEvenings_h5 N s0 v1 v2 n) s0 v1 v2 v3 v4 = some y := hf
    exact k_Mo_areEvenings_b5 C0 s0 v1 v2 v3 v4 (fun v3 v4 hf ls hl => ih v3 v4 hf ls hl) hP hf ls hl
set_option maxHeartbeats 4000000 in
set_option maxRecDepth 100000 in
theorem k_Mo_areEvenings_b0 {p : Program} {l : Launch} {e : Env} {s : State} {m : MethodId} {args : Array Value} {below : List Frame} {meth : Method} {c : Code} {dC : Nat → ClassId} {dI : Nat → Nat → Nat} {cy : Nat → ClassId} {o0 : Nat} {a0 : Nat → Nat} {N : Nat} {y : Int32} (C0 : zCx p s m args meth c cX11_areEvenings 5 (some .boolean) RX11 (dC, dI) cy) (s0 : zSt) (v1 : Int32) (v2 : Int32) (hP : va_P (dC, dI) vwCl (wd_Mo_areEvenings cy o0 a0 (zI s0) (zL s0) (zA s0 16) (zA s0 21) (zA s0 39) (zA s0 40) (zA s0 42) (zA s0 45) (zA s0 46) (zA s0 56)) s.heap) (hf : Mo_areEvenings_b0 N s0 v1 v2 = some y) (ls : Array Slot) (hl : lv_has ls 5 [(0, .ref o0), (1, .int v1), (2, .int v2)]) : W p l e rm_Mo_areEvenings s m args below meth c s.heap [] 0 0 (MQ below (zSi y) args s 0 0 (fun _ => False)) (F0 m 0 ls []) := by
  obtain ⟨hx, hb, hr, hml, hown, hT, hk, hK⟩ := id C0
  refine lv_iconst (v := 1) hx hb dX11_areEvenings_0 (by decide) ?_
  refine lv_istore_n (lv' := [(3, .int 1), (0, .ref o0), (1, .int v1), (2, .int v2)]) hx hb dX11_areEvenings_1 rfl hl (by decide) rfl (fun ls hl => ?_)
  refine lv_iconst (v := 0) hx hb dX11_areEvenings_2 (by decide) ?_
  refine lv_istore (lv' := [(4, .int 0), (3, .int 1), (0, .ref o0), (1, .int v1), (2, .int v2)]) hx hb dX11_areEvenings_3 hl (by decide) rfl (fun ls hl => ?_)
  exact k_Mo_areEvenings_h5 C0 s0 v1 v2  hP N 1 0 hf _ (lv_sub hl [2, 3, 4, 1, 0] rfl)
set_option maxHeartbeats 4000000 in
set_option maxRecDepth 100000 in
theorem c_Mo_areEvenings {l : Launch} {dC : Nat → ClassId} {dI : Nat → Nat → Nat} {cy : Nat → ClassId} {N : Nat} (o0 : Nat) (a0 : Nat → Nat) (s0 : zSt) (v1 : Int32) (v2 : Int32) {y : Int32} (hf : Mo_areEvenings N s0 v1 v2 = some y) : Met l yX11_areEvenings (.code yX11_areEvenings cX11_areEvenings 5 (some .boolean) :: zt) rm_Mo_areEvenings (va_Pc [.ref o0, .int v1, .int v2] (zRd (dC, dI) cy (wd_Mo_areEvenings cy o0 a0 (zI s0) (zL s0) (zA s0 16) (zA s0 21) (zA s0 39) (zA s0 40) (zA s0 42) (zA s0 45) (zA s0 46) (zA s0 56)))) (zSi y) 0 0 (fun _ => False) :=
  zentR (by decide +kernel) (Nat.le_of_ble_eq_true rfl) (fun p e s m below meth c C0 hP ls hl => k_Mo_areEvenings_b0 C0 s0 v1 v2 hP hf ls hl)
def wd_Mo_nextTried (cy : Nat → ClassId) (o0 : Nat) (a0 : Nat → Nat) (g0 : Nat → Int32) (h0 : Nat → Int64) (x0_56 : Nat → Int32) : va_W := [(o0, .inr (11, fs_Mo a0 g0 h0)), (a0 56, .inl (cy 0, 9, .inl x0_56))]
def rm_Mo_nextTried : Room := { frames := 1, cells := 0, slots := 0, locals := 40 }
set_option maxHeartbeats 4000000 in
set_option maxRecDepth 100000 in
theorem k_Mo_nextTried_b7 {p : Program} {l : Launch} {e : Env} {s : State} {m : MethodId} {args : Array Value} {below : List Frame} {meth : Method} {c : Code} {dC : Nat → ClassId} {dI : Nat → Nat → Nat} {cy : Nat → ClassId} {A : Nat → Prop} {o0 : Nat} {a0 : Nat → Nat} {N : Nat} {kh7 : zSt → Int32 → Option (Int32 × zSt)} {y : Int32 × zSt} (C0 : zCx p s m args meth c cX11_nextTried 2 (some .boolean) RX11 (dC, dI) cy) (s0 : zSt) (v1 : Int32) (hk7 : ∀ (s0 : zSt) (v1 : Int32) {H : Heap} {locs : List Loc} (_ : va_P (dC, dI) vwCl (wd_Mo_nextTried cy o0 a0 (zI s0) (zL s0) (zA s0 56)) H) (_ : va_D A (wd_Mo_nextTried cy o0 a0 (zI s0) (zL s0) (zA s0 56))) (_ : va_S A s.heap H locs) (_ : kh7 s0 v1 = some y) (ls : Array Slot) (_ : lv_has ls 2 [(0, .ref o0), (1, .int v1)]), W p l e rm_Mo_nextTried s m args below meth c H locs 0 0 (MQ below (zQi y.1 (dC, dI) cy (wd_Mo_nextTried cy o0 a0 (zI y.2) (zL y.2) (zA y.2 56)) A) args s 0 0 A) (F0 m 7 ls [])) (hA : ∀ q, s.heap.size ≤ q → A q) {H : Heap} {locs : List Loc} (hP : va_P (dC, dI) vwCl (wd_Mo_nextTried cy o0 a0 (zI s0) (zL s0) (zA s0 56)) H) (hD : va_D A (wd_Mo_nextTried cy o0 a0 (zI s0) (zL s0) (zA s0 56))) (hS : va_S A s.heap H locs) (hf : Mo_nextTried_b7 N kh7 s0 v1 = some y) (ls : Array Slot) (hl : lv_has ls 2 [(0, .ref o0), (1, .int v1)]) : W p l e rm_Mo_nextTried s m args below meth c H locs 0 0 (MQ below (zQi y.1 (dC, dI) cy (wd_Mo_nextTried cy o0 a0 (zI y.2) (zL y.2) (zA y.2 56)) A) args s 0 0 A) (F0 m 7 ls []) := by
  obtain ⟨hx, hb, hr, hml, hown, hT, hk, hK⟩ := id C0
  refine lv_iload_n hx hb dX11_nextTried_7 rfl (lv_at hl 1 rfl) ?_
  refine lv_if_lt (tgt := 46) hx hb dX11_nextTried_8 (by decide) (fun hb_1 => ?_) (fun hb_1 => ?_)
  · have hf := zif_t hb_1 hf
    refine lv_iconst (v := 0) hx hb dX11_nextTried_46 (by decide) ?_
    cases hf
    exact zewz hx hb hr hk (Or.inl rfl) hK hP hD hS dX11_nextTried_47
  · have hf := zif_f hb_1 hf
    refine lv_aload_n hx hb dX11_nextTried_11 rfl (lv_at hl 0 rfl) ?_
    refine zget (v := .ref (a0 56)) hx hb hown hT hK hP inX11 rfl smX11 0 rfl 56 (by decide) tb_1058 rfl dX11_nextTried_12 ?_
    refine lv_iload_n hx hb dX11_nextTried_15 rfl (lv_at hl 1 rfl) ?_
    obtain ⟨hi2, hf⟩ := zck_some hf
    refine va_iald hx hb hK.1 hP 1 0 rfl rfl hi2 dX11_nextTried_16 ?_
    refine lv_iconst (v := 2) hx hb dX11_nextTried_17 (by decide) ?_
    refine lv_icmp_ge (tgt := 33) hx hb dX11_nextTried_18 (by decide) (fun hb_3 => ?_) (fun hb_3 => ?_)
    · have hf := zif_t hb_3 hf
      refine lv_aload_n hx hb dX11_nextTried_33 rfl (lv_at hl 0 rfl) ?_
      refine zget (v := .ref (a0 56)) hx hb hown hT hK hP inX11 rfl smX11 0 rfl 56 (by decide) tb_1058 rfl dX11_nextTried_34 ?_
      refine lv_iload_n hx hb dX11_nextTried_37 rfl (lv_at hl 1 rfl) ?_
      refine lv_iconst (v := 0) hx hb dX11_nextTried_38 (by decide) ?_
      obtain ⟨hi4, hf⟩ := zck_some hf
      refine zast (ws' := (wd_Mo_nextTried cy o0 a0 (zI s0) (zL s0) (upd (zA s0 56) (Int32.toNatClampNeg v1) 0))) hx hb hK hP hD hS 1 0 rfl rfl hi4 rfl dX11_nextTried_39 (fun H locs hP hD hS => ?_)
      refine lv_iinc (v := v1 + (-1)) (lv' := [(1, .int (v1 + (-1))), (0, .ref o0)]) hx hb dX11_nextTried_40 hl (k := 1) rfl rfl (by decide) rfl (fun ls hl => ?_)
      refine lv_goto (tgt := 7) hx hb dX11_nextTried_43 (by decide) ?_
      exact hk7 (zsA s0 56 (upd (zA s0 56) (Int32.toNatClampNeg v1) 0)) (v1 + (-1)) hP hD hS hf _ (lv_sub hl [1, 0] rfl)
    · have hf := zif_f hb_3 hf
      refine lv_aload_n hx hb dX11_nextTried_21 rfl (lv_at hl 0 rfl) ?_
      refine zget (v := .ref (a0 56)) hx hb hown hT hK hP inX11 rfl smX11 0 rfl 56 (by decide) tb_1058 rfl dX11_nextTried_22 ?_
      refine lv_iload_n hx hb dX11_nextTried_25 rfl (lv_at hl 1 rfl) ?_
      refine lv_dup2_11 hx hb dX11_nextTried_26 rfl rfl ?_
      obtain ⟨hi5, hf⟩ := zck_some hf
      refine va_iald hx hb hK.1 hP 1 0 rfl rfl hi5 dX11_nextTried_27 ?_
      refine lv_iconst (v := 1) hx hb dX11_nextTried_28 (by decide) ?_
      refine lv_iadd hx hb dX11_nextTried_29 ?_
      obtain ⟨hi6, hf⟩ := zck_some hf
      refine zast (ws' := (wd_Mo_nextTried cy o0 a0 (zI s0) (zL s0) (upd (zA s0 56) (Int32.toNatClampNeg v1) (((zA s0 56) (Int32.toNatClampNeg v1)) + 1)))) hx hb hK hP hD hS 1 0 rfl rfl hi6 rfl dX11_nextTried_30 (fun H locs hP hD hS => ?_)
      refine lv_iconst (v := 1) hx hb dX11_nextTried_31 (by decide) ?_
      cases hf
      exact zewz hx hb hr hk (Or.inr rfl) hK hP hD hS dX11_nextTried_32
set_option maxHeartbeats 4000000 in
set_option maxRecDepth 100000 in
theorem k_Mo_nextTried_h7 {p : Program} {l : Launch} {e : Env} {s : State} {m : MethodId} {args : Array Value} {below : List Frame} {meth : Method} {c : Code} {dC : Nat → ClassId} {dI : Nat → Nat → Nat} {cy : Nat → ClassId} {A : Nat → Prop} {o0 : Nat} {a0 : Nat → Nat} {N : Nat} {y : Int32 × zSt} (C0 : zCx p s m args meth c cX11_nextTried 2 (some .boolean) RX11 (dC, dI) cy) (hA : ∀ q, s.heap.size ≤ q → A q) : ∀ (n : Nat) (s0 : zSt) (v1 : Int32) {H : Heap} {locs : List Loc} (hP : va_P (dC, dI) vwCl (wd_Mo_nextTried cy o0 a0 (zI s0) (zL s0) (zA s0 56)) H) (hD : va_D A (wd_Mo_nextTried cy o0 a0 (zI s0) (zL s0) (zA s0 56))) (hS : va_S A s.heap H locs) (hf : Mo_nextTried_h7 N n s0 v1 = some y) (ls : Array Slot) (hl : lv_has ls 2 [(0, .ref o0), (1, .int v1)]), W p l e rm_Mo_nextTried s m args below meth c H locs 0 0 (MQ below (zQi y.1 (dC, dI) cy (wd_Mo_nextTried cy o0 a0 (zI y.2) (zL y.2) (zA y.2 56)) A) args s 0 0 A) (F0 m 7 ls []) := by
  intro n
  induction n with
  | zero => intro s0 v1 H locs hP hD hS hf; cases hf
  | succ n ih =>
    intro s0 v1 H locs hP hD hS hf ls hl
    have hf : Mo_nextTried_b7 N (Mo_nextTried_h7 N n) s0 v1 = some y := hf
    exact k_Mo_nextTried_b7 C0 s0 v1 (fun s0 v1 _ _ hP hD hS hf ls hl => ih s0 v1 hP hD hS hf ls hl) hA hP hD hS hf ls hl
set_option maxHeartbeats 4000000 in
set_option maxRecDepth 100000 in
theorem k_Mo_nextTried_b0 {p : Program} {l : Launch} {e : Env} {s : State} {m : MethodId} {args : Array Value} {below : List Frame} {meth : Method} {c : Code} {dC : Nat → ClassId} {dI : Nat → Nat → Nat} {cy : Nat → ClassId} {A : Nat → Prop} {o0 : Nat} {a0 : Nat → Nat} {N : Nat} {y : Int32 × zSt} (C0 : zCx p s m args meth c cX11_nextTried 2 (some .boolean) RX11 (dC, dI) cy) (s0 : zSt) (hA : ∀ q, s.heap.size ≤ q → A q) {H : Heap} {locs : List Loc} (hP : va_P (dC, dI) vwCl (wd_Mo_nextTried cy o0 a0 (zI s0) (zL s0) (zA s0 56)) H) (hD : va_D A (wd_Mo_nextTried cy o0 a0 (zI s0) (zL s0) (zA s0 56))) (hS : va_S A s.heap H locs) (hf : Mo_nextTried_b0 N s0 = some y) (ls : Array Slot) (hl : lv_has ls 2 [(0, .ref o0)]) : W p l e rm_Mo_nextTried s m args below meth c H locs 0 0 (MQ below (zQi y.1 (dC, dI) cy (wd_Mo_nextTried cy o0 a0 (zI y.2) (zL y.2) (zA y.2 56)) A) args s 0 0 A) (F0 m 0 ls []) := by
  obtain ⟨hx, hb, hr, hml, hown, hT, hk, hK⟩ := id C0
  refine lv_aload_n hx hb dX11_nextTried_0 rfl (lv_at hl 0 rfl) ?_
  refine zget (v := .int (zI s0 30)) hx hb hown hT hK hP inX11 rfl smX11 0 rfl 30 (by decide) tb_1032 rfl dX11_nextTried_1 ?_
  refine lv_iconst (v := 1) hx hb dX11_nextTried_4 (by decide) ?_
  refine lv_isub hx hb dX11_nextTried_5 ?_
  refine lv_istore_n (lv' := [(1, .int ((zI s0 30) - 1)), (0, .ref o0)]) hx hb dX11_nextTried_6 rfl hl (by decide) rfl (fun ls hl => ?_)
  exact k_Mo_nextTried_h7 C0   hA N s0 ((zI s0 30) - 1) hP hD hS hf _ (lv_sub hl [1, 0] rfl)
set_option maxHeartbeats 4000000 in
set_option maxRecDepth 100000 in
theorem c_Mo_nextTried {l : Launch} {dC : Nat → ClassId} {dI : Nat → Nat → Nat} {cy : Nat → ClassId} {sz : Nat} {N : Nat} (o0 : Nat) (a0 : Nat → Nat) (s0 : zSt) {y : Int32 × zSt} (hf : Mo_nextTried N s0 = some y) : Met l yX11_nextTried (.code yX11_nextTried cX11_nextTried 2 (some .boolean) :: zt) rm_Mo_nextTried (va_Pc [.ref o0] (zPre (dC, dI) cy (wd_Mo_nextTried cy o0 a0 (zI s0) (zL s0) (zA s0 56)) sz)) (zQi y.1 (dC, dI) cy (wd_Mo_nextTried cy o0 a0 (zI y.2) (zL y.2) (zA y.2 56)) (va_A (wd_Mo_nextTried cy o0 a0 (zI s0) (zL s0) (zA s0 56)) sz)) 0 0 (va_A (wd_Mo_nextTried cy o0 a0 (zI s0) (zL s0) (zA s0 56)) sz) :=
  zentW (Qw := fun A => (zQi y.1 (dC, dI) cy (wd_Mo_nextTried cy o0 a0 (zI y.2) (zL y.2) (zA y.2 56)) A)) (by decide +kernel) (Nat.le_of_ble_eq_true rfl) (fun p e s m below meth c A C0 hA hP hD hS ls hl => k_Mo_nextTried_b0 C0 s0 hA hP hD hS hf ls hl)
def wd_Mo_clearTried (cy : Nat → ClassId) (o0 : Nat) (a0 : Nat → Nat) (g0 : Nat → Int32) (h0 : Nat → Int64) (x0_56 : Nat → Int32) : va_W := [(o0, .inr (11, fs_Mo a0 g0 h0)), (a0 56, .inl (cy 0, 9, .inl x0_56))]
def rm_Mo_clearTried : Room := { frames := 1, cells := 0, slots := 0, locals := 40 }
set_option maxHeartbeats 4000000 in
set_option maxRecDepth 100000 in
theorem k_Mo_clearTried_b2 {p : Program} {l : Launch} {e : Env} {s : State} {m : MethodId} {args : Array Value} {below : List Frame} {meth : Method} {c : Code} {dC : Nat → ClassId} {dI : Nat → Nat → Nat} {cy : Nat → ClassId} {A : Nat → Prop} {o0 : Nat} {a0 : Nat → Nat} {N : Nat} {kh2 : zSt → Int32 → Option (zSt)} {y : zSt} (C0 : zCx p s m args meth c cX11_clearTried 2 none RX11 (dC, dI) cy) (s0 : zSt) (v1 : Int32) (hk2 : ∀ (s0 : zSt) (v1 : Int32) {H : Heap} {locs : List Loc} (_ : va_P (dC, dI) vwCl (wd_Mo_clearTried cy o0 a0 (zI s0) (zL s0) (zA s0 56)) H) (_ : va_D A (wd_Mo_clearTried cy o0 a0 (zI s0) (zL s0) (zA s0 56))) (_ : va_S A s.heap H locs) (_ : kh2 s0 v1 = some y) (ls : Array Slot) (_ : lv_has ls 2 [(0, .ref o0), (1, .int v1)]), W p l e rm_Mo_clearTried s m args below meth c H locs 0 0 (MQ below (zQv (dC, dI) cy (wd_Mo_clearTried cy o0 a0 (zI y) (zL y) (zA y 56)) A) args s 0 0 A) (F0 m 2 ls [])) (hA : ∀ q, s.heap.size ≤ q → A q) {H : Heap} {locs : List Loc} (hP : va_P (dC, dI) vwCl (wd_Mo_clearTried cy o0 a0 (zI s0) (zL s0) (zA s0 56)) H) (hD : va_D A (wd_Mo_clearTried cy o0 a0 (zI s0) (zL s0) (zA s0 56))) (hS : va_S A s.heap H locs) (hf : Mo_clearTried_b2 N kh2 s0 v1 = some y) (ls : Array Slot) (hl : lv_has ls 2 [(0, .ref o0), (1, .int v1)]) : W p l e rm_Mo_clearTried s m args below meth c H locs 0 0 (MQ below (zQv (dC, dI) cy (wd_Mo_clearTried cy o0 a0 (zI y) (zL y) (zA y 56)) A) args s 0 0 A) (F0 m 2 ls []) := by
  obtain ⟨hx, hb, hr, hml, hown, hT, hk, hK⟩ := id C0
  refine lv_iload_n hx hb dX11_clearTried_2 rfl (lv_at hl 1 rfl) ?_
  refine lv_bipush (v := 9) hx hb dX11_clearTried_3 (by decide) ?_
  refine lv_icmp_ge (tgt := 21) hx hb dX11_clearTried_5 (by decide) (fun hb_1 => ?_) (fun hb_1 => ?_)
  · have hf := zif_t hb_1 hf
    cases hf
    exact zewv hx hb hr hk hK hP hD hS dX11_clearTried_21
  · have hf := zif_f hb_1 hf
    refine lv_aload_n hx hb dX11_clearTried_8 rfl (lv_at hl 0 rfl) ?_
    refine zget (v := .ref (a0 56)) hx hb hown hT hK hP inX11 rfl smX11 0 rfl 56 (by decide) tb_1058 rfl dX11_clearTried_9 ?_
    refine lv_iload_n hx hb dX11_clearTried_12 rfl (lv_at hl 1 rfl) ?_
    refine lv_iconst (v := 0) hx hb dX11_clearTried_13 (by decide) ?_
    obtain ⟨hi2, hf⟩ := zck_some hf
    refine zast (ws' := (wd_Mo_clearTried cy o0 a0 (zI s0) (zL s0) (upd (zA s0 56) (Int32.toNatClampNeg v1) 0))) hx hb hK hP hD hS 1 0 rfl rfl hi2 rfl dX11_clearTried_14 (fun H locs hP hD hS => ?_)
    refine lv_iinc (v := v1 + 1) (lv' := [(1, .int (v1 + 1)), (0, .ref o0)]) hx hb dX11_clearTried_15 hl (k := 1) rfl rfl (by decide) rfl (fun ls hl => ?_)
    refine lv_goto (tgt := 2) hx hb dX11_clearTried_18 (by decide) ?_
    exact hk2 (zsA s0 56 (upd (zA s0 56) (Int32.toNatClampNeg v1) 0)) (v1 + 1) hP hD hS hf _ (lv_sub hl [1, 0] rfl)
set_option maxHeartbeats 4000000 in
set_option maxRecDepth 100000 in
theorem k_Mo_clearTried_h2 {p : Program} {l : Launch} {e : Env} {s : State} {m : MethodId} {args : Array Value} {below : List Frame} {meth : Method} {c : Code} {dC : Nat → ClassId} {dI : Nat → Nat → Nat} {cy : Nat → ClassId} {A : Nat → Prop} {o0 : Nat} {a0 : Nat → Nat} {N : Nat} {y : zSt} (C0 : zCx p s m args meth c cX11_clearTried 2 none RX11 (dC, dI) cy) (hA : ∀ q, s.heap.size ≤ q → A q) : ∀ (n : Nat) (s0 : zSt) (v1 : Int32) {H : Heap} {locs : List Loc} (hP : va_P (dC, dI) vwCl (wd_Mo_clearTried cy o0 a0 (zI s0) (zL s0) (zA s0 56)) H) (hD : va_D A (wd_Mo_clearTried cy o0 a0 (zI s0) (zL s0) (zA s0 56))) (hS : va_S A s.heap H locs) (hf : Mo_clearTried_h2 N n s0 v1 = some y) (ls : Array Slot) (hl : lv_has ls 2 [(0, .ref o0), (1, .int v1)]), W p l e rm_Mo_clearTried s m args below meth c H locs 0 0 (MQ below (zQv (dC, dI) cy (wd_Mo_clearTried cy o0 a0 (zI y) (zL y) (zA y 56)) A) args s 0 0 A) (F0 m 2 ls []) := by
  intro n
  induction n with
  | zero => intro s0 v1 H locs hP hD hS hf; cases hf
  | succ n ih =>
    intro s0 v1 H locs hP hD hS hf ls hl
    have hf : Mo_clearTried_b2 N (Mo_clearTried_h2 N n) s0 v1 = some y := hf
    exact k_Mo_clearTried_b2 C0 s0 v1 (fun s0 v1 _ _ hP hD hS hf ls hl => ih s0 v1 hP hD hS hf ls hl) hA hP hD hS hf ls hl
set_option maxHeartbeats 4000000 in
set_option maxRecDepth 100000 in
theorem k_Mo_clearTried_b0 {p : Program} {l : Launch} {e : Env} {s : State} {m : MethodId} {args : Array Value} {below : List Frame} {meth : Method} {c : Code} {dC : Nat → ClassId} {dI : Nat → Nat → Nat} {cy : Nat → ClassId} {A : Nat → Prop} {o0 : Nat} {a0 : Nat → Nat} {N : Nat} {y : zSt} (C0 : zCx p s m args meth c cX11_clearTried 2 none RX11 (dC, dI) cy) (s0 : zSt) (hA : ∀ q, s.heap.size ≤ q → A q) {H : Heap} {locs : List Loc} (hP : va_P (dC, dI) vwCl (wd_Mo_clearTried cy o0 a0 (zI s0) (zL s0) (zA s0 56)) H) (hD : va_D A (wd_Mo_clearTried cy o0 a0 (zI s0) (zL s0) (zA s0 56))) (hS : va_S A s.heap H locs) (hf : Mo_clearTried_b0 N s0 = some y) (ls : Array Slot) (hl : lv_has ls 2 [(0, .ref o0)]) : W p l e rm_Mo_clearTried s m args below meth c H locs 0 0 (MQ below (zQv (dC, dI) cy (wd_Mo_clearTried cy o0 a0 (zI y) (zL y) (zA y 56)) A) args s 0 0 A) (F0 m 0 ls []) := by
  obtain ⟨hx, hb, hr, hml, hown, hT, hk, hK⟩ := id C0
  refine lv_iconst (v := 0) hx hb dX11_clearTried_0 (by decide) ?_
  refine lv_istore_n (lv' := [(1, .int 0), (0, .ref o0)]) hx hb dX11_clearTried_1 rfl hl (by decide) rfl (fun ls hl => ?_)
  exact k_Mo_clearTried_h2 C0   hA N s0 0 hP hD hS hf _ (lv_sub hl [1, 0] rfl)
set_option maxHeartbeats 4000000 in
set_option maxRecDepth 100000 in
theorem c_Mo_clearTried {l : Launch} {dC : Nat → ClassId} {dI : Nat → Nat → Nat} {cy : Nat → ClassId} {sz : Nat} {N : Nat} (o0 : Nat) (a0 : Nat → Nat) (s0 : zSt) {y : zSt} (hf : Mo_clearTried N s0 = some y) : Met l yX11_clearTried (.code yX11_clearTried cX11_clearTried 2 none :: zt) rm_Mo_clearTried (va_Pc [.ref o0] (zPre (dC, dI) cy (wd_Mo_clearTried cy o0 a0 (zI s0) (zL s0) (zA s0 56)) sz)) (zQv (dC, dI) cy (wd_Mo_clearTried cy o0 a0 (zI y) (zL y) (zA y 56)) (va_A (wd_Mo_clearTried cy o0 a0 (zI s0) (zL s0) (zA s0 56)) sz)) 0 0 (va_A (wd_Mo_clearTried cy o0 a0 (zI s0) (zL s0) (zA s0 56)) sz) :=
  zentW (Qw := fun A => (zQv (dC, dI) cy (wd_Mo_clearTried cy o0 a0 (zI y) (zL y) (zA y 56)) A)) (by decide +kernel) (Nat.le_of_ble_eq_true rfl) (fun p e s m below meth c A C0 hA hP hD hS ls hl => k_Mo_clearTried_b0 C0 s0 hA hP hD hS hf ls hl)
def wd_Mo_triedSum (cy : Nat → ClassId) (o0 : Nat) (a0 : Nat → Nat) (g0 : Nat → Int32) (h0 : Nat → Int64) (x0_56 : Nat → Int32) : va_W := [(o0, .inr (11, fs_Mo a0 g0 h0)), (a0 56, .inl (cy 0, 9, .inl x0_56))]
def rm_Mo_triedSum : Room := { frames := 1, cells := 0, slots := 0, locals := 40 }
set_option maxHeartbeats 4000000 in
set_option maxRecDepth 100000 in
theorem k_Mo_triedSum_b4 {p : Program} {l : Launch} {e : Env} {s : State} {m : MethodId} {args : Array Value} {below : List Frame} {meth : Method} {c : Code} {dC : Nat → ClassId} {dI : Nat → Nat → Nat} {cy : Nat → ClassId} {o0 : Nat} {a0 : Nat → Nat} {N : Nat} {kh4 : Int32 → Int32 → Option (Int32)} {y : Int32} (C0 : zCx p s m args meth c cX11_triedSum 3 (some .int) RX11 (dC, dI) cy) (s0 : zSt) (v1 : Int32) (v2 : Int32) (hk4 : ∀ (v1 : Int32) (v2 : Int32) (_ : kh4 v1 v2 = some y) (ls : Array Slot) (_ : lv_has ls 3 [(0, .ref o0), (1, .int v1), (2, .int v2)]), W p l e rm_Mo_triedSum s m args below meth c s.heap [] 0 0 (MQ below (zSi y) args s 0 0 (fun _ => False)) (F0 m 4 ls [])) (hP : va_P (dC, dI) vwCl (wd_Mo_triedSum cy o0 a0 (zI s0) (zL s0) (zA s0 56)) s.heap) (hf : Mo_triedSum_b4 N kh4 s0 v1 v2 = some y) (ls : Array Slot) (hl : lv_has ls 3 [(0, .ref o0), (1, .int v1), (2, .int v2)]) : W p l e rm_Mo_triedSum s m args below meth c s.heap [] 0 0 (MQ below (zSi y) args s 0 0 (fun _ => False)) (F0 m 4 ls []) := by
  obtain ⟨hx, hb, hr, hml, hown, hT, hk, hK⟩ := id C0
  refine lv_iload_n hx hb dX11_triedSum_4 rfl (lv_at hl 2 rfl) ?_
  refine lv_aload_n hx hb dX11_triedSum_5 rfl (lv_at hl 0 rfl) ?_
  refine zget (v := .int (zI s0 30)) hx hb hown hT hK hP inX11 rfl smX11 0 rfl 30 (by decide) tb_1032 rfl dX11_triedSum_6 ?_
  refine lv_icmp_ge (tgt := 27) hx hb dX11_triedSum_9 (by decide) (fun hb_1 => ?_) (fun hb_1 => ?_)
  · have hf := zif_t hb_1 hf
    refine lv_iload_n hx hb dX11_triedSum_27 rfl (lv_at hl 1 rfl) ?_
    cases hf
    exact zeri hx hb hr hk dX11_triedSum_28
  · have hf := zif_f hb_1 hf
    refine lv_iload_n hx hb dX11_triedSum_12 rfl (lv_at hl 1 rfl) ?_
    refine lv_aload_n hx hb dX11_triedSum_13 rfl (lv_at hl 0 rfl) ?_
    refine zget (v := .ref (a0 56)) hx hb hown hT hK hP inX11 rfl smX11 0 rfl 56 (by decide) tb_1058 rfl dX11_triedSum_14 ?_
    refine lv_iload_n hx hb dX11_triedSum_17 rfl (lv_at hl 2 rfl) ?_
    obtain ⟨hi2, hf⟩ := zck_some hf
    refine va_iald hx hb hK.1 hP 1 0 rfl rfl hi2 dX11_triedSum_18 ?_
    refine lv_iadd hx hb dX11_triedSum_19 ?_
    refine lv_istore_n (lv' := [(1, .int (v1 + ((zA s0 56) (Int32.toNatClampNeg v2)))), (0, .ref o0), (2, .int v2)]) hx hb dX11_triedSum_20 rfl hl (by decide) rfl (fun ls hl => ?_)
    refine lv_iinc (v := v2 + 1) (lv' := [(2, .int (v2 + 1)), (1, .int (v1 + ((zA s0 56) (Int32.toNatClampNeg v2)))), (0, .ref o0)]) hx hb dX11_triedSum_21 hl (k := 2) rfl rfl (by decide) rfl (fun ls hl => ?_)
    refine lv_goto (tgt := 4) hx hb dX11_triedSum_24 (by decide) ?_
    exact hk4 (v1 + ((zA s0 56) (Int32.toNatClampNeg v2))) (v2 + 1) hf _ (lv_sub hl [2, 1, 0] rfl)
set_option maxHeartbeats 4000000 in
set_option maxRecDepth 100000 in
theorem k_Mo_triedSum_h4 {p : Program} {l : Launch} {e : Env} {s : State} {m : MethodId} {args : Array Value} {below : List Frame} {meth : Method} {c : Code} {dC : Nat → ClassId} {dI : Nat → Nat → Nat} {cy : Nat → ClassId} {o0 : Nat} {a0 : Nat → Nat} {N : Nat} {y : Int32} (C0 : zCx p s m args meth c cX11_triedSum 3 (some .int) RX11 (dC, dI) cy) (s0 : zSt) (hP : va_P (dC, dI) vwCl (wd_Mo_triedSum cy o0 a0 (zI s0) (zL s0) (zA s0 56)) s.heap) : ∀ (n : Nat) (v1 : Int32) (v2 : Int32) (hf : Mo_triedSum_h4 N s0 n v1 v2 = some y) (ls : Array Slot) (hl : lv_has ls 3 [(0, .ref o0), (1, .int v1), (2, .int v2)]), W p l e rm_Mo_triedSum s m args below meth c s.heap [] 0 0 (MQ below (zSi y) args s 0 0 (fun _ => False)) (F0 m 4 ls []) := by
  intro n
  induction n with
  | zero => intro v1 v2 hf; cases hf
  | succ n ih =>
    intro v1 v2 hf ls hl
    have hf : Mo_triedSum_b4 N (Mo_triedSum_h4 N s0 n) s0 v1 v2 = some y := hf
    exact k_Mo_triedSum_b4 C0 s0 v1 v2 (fun v1 v2 hf ls hl => ih v1 v2 hf ls hl) hP hf ls hl
set_option maxHeartbeats 4000000 in
set_option maxRecDepth 100000 in
theorem k_Mo_triedSum_b0 {p : Program} {l : Launch} {e : Env} {s : State} {m : MethodId} {args : Array Value} {below : List Frame} {meth : Method} {c : Code} {dC : Nat → ClassId} {dI : Nat → Nat → Nat} {cy : Nat → ClassId} {o0 : Nat} {a0 : Nat → Nat} {N : Nat} {y : Int32} (C0 : zCx p s m args meth c cX11_triedSum 3 (some .int) RX11 (dC, dI) cy) (s0 : zSt) (hP : va_P (dC, dI) vwCl (wd_Mo_triedSum cy o0 a0 (zI s0) (zL s0) (zA s0 56)) s.heap) (hf : Mo_triedSum_b0 N s0 = some y) (ls : Array Slot) (hl : lv_has ls 3 [(0, .ref o0)]) : W p l e rm_Mo_triedSum s m args below meth c s.heap [] 0 0 (MQ below (zSi y) args s 0 0 (fun _ => False)) (F0 m 0 ls []) := by
  obtain ⟨hx, hb, hr, hml, hown, hT, hk, hK⟩ := id C0
  refine lv_iconst (v := 0) hx hb dX11_triedSum_0 (by decide) ?_
  refine lv_istore_n (lv' := [(1, .int 0), (0, .ref o0)]) hx hb dX11_triedSum_1 rfl hl (by decide) rfl (fun ls hl => ?_)
  refine lv_iconst (v := 0) hx hb dX11_triedSum_2 (by decide) ?_
  refine lv_istore_n (lv' := [(2, .int 0), (1, .int 0), (0, .ref o0)]) hx hb dX11_triedSum_3 rfl hl (by decide) rfl (fun ls hl => ?_)
  exact k_Mo_triedSum_h4 C0 s0  hP N 0 0 hf _ (lv_sub hl [2, 1, 0] rfl)
set_option maxHeartbeats 4000000 in
set_option maxRecDepth 100000 in
theorem c_Mo_triedSum {l : Launch} {dC : Nat → ClassId} {dI : Nat → Nat → Nat} {cy : Nat → ClassId} {N : Nat} (o0 : Nat) (a0 : Nat → Nat) (s0 : zSt) {y : Int32} (hf : Mo_triedSum N s0 = some y) : Met l yX11_triedSum (.code yX11_triedSum cX11_triedSum 3 (some .int) :: zt) rm_Mo_triedSum (va_Pc [.ref o0] (zRd (dC, dI) cy (wd_Mo_triedSum cy o0 a0 (zI s0) (zL s0) (zA s0 56)))) (zSi y) 0 0 (fun _ => False) :=
  zentR (by decide +kernel) (Nat.le_of_ble_eq_true rfl) (fun p e s m below meth c C0 hP ls hl => k_Mo_triedSum_b0 C0 s0 hP hf ls hl)
def wd_Mo_putDown (cy : Nat → ClassId) (o0 : Nat) (a0 : Nat → Nat) (g0 : Nat → Int32) (h0 : Nat → Int64) (x0_56 : Nat → Int32) (x0_57 : Nat → Int32) : va_W := [(o0, .inr (11, fs_Mo a0 g0 h0)), (a0 56, .inl (cy 0, 9, .inl x0_56)), (a0 57, .inl (cy 0, 9, .inl x0_57))]
def rm_Mo_putDown : Room := { frames := 1, cells := 0, slots := 0, locals := 40 }
set_option maxHeartbeats 4000000 in
set_option maxRecDepth 100000 in
theorem k_Mo_putDown_b2 {p : Program} {l : Launch} {e : Env} {s : State} {m : MethodId} {args : Array Value} {below : List Frame} {meth : Method} {c : Code} {dC : Nat → ClassId} {dI : Nat → Nat → Nat} {cy : Nat → ClassId} {A : Nat → Prop} {o0 : Nat} {a0 : Nat → Nat} {N : Nat} {kh2 : zSt → Int32 → Option (zSt)} {y : zSt} (C0 : zCx p s m args meth c cX11_putDown 2 none RX11 (dC, dI) cy) (s0 : zSt) (v1 : Int32) (hk2 : ∀ (s0 : zSt) (v1 : Int32) {H : Heap} {locs : List Loc} (_ : va_P (dC, dI) vwCl (wd_Mo_putDown cy o0 a0 (zI s0) (zL s0) (zA s0 56) (zA s0 57)) H) (_ : va_D A (wd_Mo_putDown cy o0 a0 (zI s0) (zL s0) (zA s0 56) (zA s0 57))) (_ : va_S A s.heap H locs) (_ : kh2 s0 v1 = some y) (ls : Array Slot) (_ : lv_has ls 2 [(0, .ref o0), (1, .int v1)]), W p l e rm_Mo_putDown s m args below meth c H locs 0 0 (MQ below (zQv (dC, dI) cy (wd_Mo_putDown cy o0 a0 (zI y) (zL y) (zA y 56) (zA y 57)) A) args s 0 0 A) (F0 m 2 ls [])) (hA : ∀ q, s.heap.size ≤ q → A q) {H : Heap} {locs : List Loc} (hP : va_P (dC, dI) vwCl (wd_Mo_putDown cy o0 a0 (zI s0) (zL s0) (zA s0 56) (zA s0 57)) H) (hD : va_D A (wd_Mo_putDown cy o0 a0 (zI s0) (zL s0) (zA s0 56) (zA s0 57))) (hS : va_S A s.heap H locs) (hf : Mo_putDown_b2 N kh2 s0 v1 = some y) (ls : Array Slot) (hl : lv_has ls 2 [(0, .ref o0), (1, .int v1)]) : W p l e rm_Mo_putDown s m args below meth c H locs 0 0 (MQ below (zQv (dC, dI) cy (wd_Mo_putDown cy o0 a0 (zI y) (zL y) (zA y 56) (zA y 57)) A) args s 0 0 A) (F0 m 2 ls []) := by
  obtain ⟨hx, hb, hr, hml, hown, hT, hk, hK⟩ := id C0
  refine lv_iload_n hx hb dX11_putDown_2 rfl (lv_at hl 1 rfl) ?_
  refine lv_bipush (v := 9) hx hb dX11_putDown_3 (by decide) ?_
  refine lv_icmp_ge (tgt := 26) hx hb dX11_putDown_5 (by decide) (fun hb_1 => ?_) (fun hb_1 => ?_)
  · have hf := zif_t hb_1 hf
    refine lv_aload_n hx hb dX11_putDown_26 rfl (lv_at hl 0 rfl) ?_
    refine lv_aload_n hx hb dX11_putDown_27 rfl (lv_at hl 0 rfl) ?_
    refine zget (v := .int (zI s0 30)) hx hb hown hT hK hP inX11 rfl smX11 0 rfl 30 (by decide) tb_1032 rfl dX11_putDown_28 ?_
    refine zput (fs' := fs_Mo a0 (upd (zI s0) 58 (zI s0 30)) (zL s0)) (ws' := (wd_Mo_putDown cy o0 a0 (upd (zI s0) 58 (zI s0 30)) (zL s0) (zA s0 56) (zA s0 57))) hx hb hown hT hK hP hD hS inX11 rfl smX11 tyX11_ok nmX11 0 rfl 58 (by decide) tb_1060 rfl rfl rfl (Nat.le_of_ble_eq_true rfl) rfl rfl dX11_putDown_31 (fun H locs hP hD hS => ?_)
    cases hf
    exact zewv hx hb hr hk hK hP hD hS dX11_putDown_34
  · have hf := zif_f hb_1 hf
    refine lv_aload_n hx hb dX11_putDown_8 rfl (lv_at hl 0 rfl) ?_
    refine zget (v := .ref (a0 57)) hx hb hown hT hK hP inX11 rfl smX11 0 rfl 57 (by decide) tb_1059 rfl dX11_putDown_9 ?_
    refine lv_iload_n hx hb dX11_putDown_12 rfl (lv_at hl 1 rfl) ?_
    refine lv_aload_n hx hb dX11_putDown_13 rfl (lv_at hl 0 rfl) ?_
    refine zget (v := .ref (a0 56)) hx hb hown hT hK hP inX11 rfl smX11 0 rfl 56 (by decide) tb_1058 rfl dX11_putDown_14 ?_
    refine lv_iload_n hx hb dX11_putDown_17 rfl (lv_at hl 1 rfl) ?_
    obtain ⟨hi2, hf⟩ := zck_some hf
    refine va_iald hx hb hK.1 hP 1 0 rfl rfl hi2 dX11_putDown_18 ?_
    obtain ⟨hi3, hf⟩ := zck_some hf
    refine zast (ws' := (wd_Mo_putDown cy o0 a0 (zI s0) (zL s0) (zA s0 56) (upd (zA s0 57) (Int32.toNatClampNeg v1) ((zA s0 56) (Int32.toNatClampNeg v1))))) hx hb hK hP hD hS 2 0 rfl rfl hi3 rfl dX11_putDown_19 (fun H locs hP hD hS => ?_)
    refine lv_iinc (v := v1 + 1) (lv' := [(1, .int (v1 + 1)), (0, .ref o0)]) hx hb dX11_putDown_20 hl (k := 1) rfl rfl (by decide) rfl (fun ls hl => ?_)
    refine lv_goto (tgt := 2) hx hb dX11_putDown_23 (by decide) ?_
    exact hk2 (zsA s0 57 (upd (zA s0 57) (Int32.toNatClampNeg v1) ((zA s0 56) (Int32.toNatClampNeg v1)))) (v1 + 1) hP hD hS hf _ (lv_sub hl [1, 0] rfl)
set_option maxHeartbeats 4000000 in
set_option maxRecDepth 100000 in
theorem k_Mo_putDown_h2 {p : Program} {l : Launch} {e : Env} {s : State} {m : MethodId} {args : Array Value} {below : List Frame} {meth : Method} {c : Code} {dC : Nat → ClassId} {dI : Nat → Nat → Nat} {cy : Nat → ClassId} {A : Nat → Prop} {o0 : Nat} {a0 : Nat → Nat} {N : Nat} {y : zSt} (C0 : zCx p s m args meth c cX11_putDown 2 none RX11 (dC, dI) cy) (hA : ∀ q, s.heap.size ≤ q → A q) : ∀ (n : Nat) (s0 : zSt) (v1 : Int32) {H : Heap} {locs : List Loc} (hP : va_P (dC, dI) vwCl (wd_Mo_putDown cy o0 a0 (zI s0) (zL s0) (zA s0 56) (zA s0 57)) H) (hD : va_D A (wd_Mo_putDown cy o0 a0 (zI s0) (zL s0) (zA s0 56) (zA s0 57))) (hS : va_S A s.heap H locs) (hf : Mo_putDown_h2 N n s0 v1 = some y) (ls : Array Slot) (hl : lv_has ls 2 [(0, .ref o0), (1, .int v1)]), W p l e rm_Mo_putDown s m args below meth c H locs 0 0 (MQ below (zQv (dC, dI) cy (wd_Mo_putDown cy o0 a0 (zI y) (zL y) (zA y 56) (zA y 57)) A) args s 0 0 A) (F0 m 2 ls []) := by
  intro n
  induction n with
  | zero => intro s0 v1 H locs hP hD hS hf; cases hf
  | succ n ih =>
    intro s0 v1 H locs hP hD hS hf ls hl
    have hf : Mo_putDown_b2 N (Mo_putDown_h2 N n) s0 v1 = some y := hf
    exact k_Mo_putDown_b2 C0 s0 v1 (fun s0 v1 _ _ hP hD hS hf ls hl => ih s0 v1 hP hD hS hf ls hl) hA hP hD hS hf ls hl
set_option maxHeartbeats 4000000 in
set_option maxRecDepth 100000 in
theorem k_Mo_putDown_b0 {p : Program} {l : Launch} {e : Env} {s : State} {m : MethodId} {args : Array Value} {below : List Frame} {meth : Method} {c : Code} {dC : Nat → ClassId} {dI : Nat → Nat → Nat} {cy : Nat → ClassId} {A : Nat → Prop} {o0 : Nat} {a0 : Nat → Nat} {N : Nat} {y : zSt} (C0 : zCx p s m args meth c cX11_putDown 2 none RX11 (dC, dI) cy) (s0 : zSt) (hA : ∀ q, s.heap.size ≤ q → A q) {H : Heap} {locs : List Loc} (hP : va_P (dC, dI) vwCl (wd_Mo_putDown cy o0 a0 (zI s0) (zL s0) (zA s0 56) (zA s0 57)) H) (hD : va_D A (wd_Mo_putDown cy o0 a0 (zI s0) (zL s0) (zA s0 56) (zA s0 57))) (hS : va_S A s.heap H locs) (hf : Mo_putDown_b0 N s0 = some y) (ls : Array Slot) (hl : lv_has ls 2 [(0, .ref o0)]) : W p l e rm_Mo_putDown s m args below meth c H locs 0 0 (MQ below (zQv (dC, dI) cy (wd_Mo_putDown cy o0 a0 (zI y) (zL y) (zA y 56) (zA y 57)) A) args s 0 0 A) (F0 m 0 ls []) := by
  obtain ⟨hx, hb, hr, hml, hown, hT, hk, hK⟩ := id C0
  refine lv_iconst (v := 0) hx hb dX11_putDown_0 (by decide) ?_
  refine lv_istore_n (lv' := [(1, .int 0), (0, .ref o0)]) hx hb dX11_putDown_1 rfl hl (by decide) rfl (fun ls hl => ?_)
  exact k_Mo_putDown_h2 C0   hA N s0 0 hP hD hS hf _ (lv_sub hl [1, 0] rfl)
set_option maxHeartbeats 4000000 in
set_option maxRecDepth 100000 in
theorem c_Mo_putDown {l : Launch} {dC : Nat → ClassId} {dI : Nat → Nat → Nat} {cy : Nat → ClassId} {sz : Nat} {N : Nat} (o0 : Nat) (a0 : Nat → Nat) (s0 : zSt) {y : zSt} (hf : Mo_putDown N s0 = some y) : Met l yX11_putDown (.code yX11_putDown cX11_putDown 2 none :: zt) rm_Mo_putDown (va_Pc [.ref o0] (zPre (dC, dI) cy (wd_Mo_putDown cy o0 a0 (zI s0) (zL s0) (zA s0 56) (zA s0 57)) sz)) (zQv (dC, dI) cy (wd_Mo_putDown cy o0 a0 (zI y) (zL y) (zA y 56) (zA y 57)) (va_A (wd_Mo_putDown cy o0 a0 (zI s0) (zL s0) (zA s0 56) (zA s0 57)) sz)) 0 0 (va_A (wd_Mo_putDown cy o0 a0 (zI s0) (zL s0) (zA s0 56) (zA s0 57)) sz) :=
  zentW (Qw := fun A => (zQv (dC, dI) cy (wd_Mo_putDown cy o0 a0 (zI y) (zL y) (zA y 56) (zA y 57)) A)) (by decide +kernel) (Nat.le_of_ble_eq_true rfl) (fun p e s m below meth c A C0 hA hP hD hS ls hl => k_Mo_putDown_b0 C0 s0 hA hP hD hS hf ls hl)
def wd_Mo_cracked (cy : Nat → ClassId) (o0 : Nat) (a0 : Nat → Nat) (g0 : Nat → Int32) (h0 : Nat → Int64) (x0_16 : Nat → Int32) (x0_21 : Nat → Int32) (x0_39 : Nat → Int32) (x0_40 : Nat → Int32) (x0_42 : Nat → Int32) (x0_45 : Nat → Int32) (x0_46 : Nat → Int32) (x0_56 : Nat → Int32) (x0_57 : Nat → Int32) : va_W := [(o0, .inr (11, fs_Mo a0 g0 h0)), (a0 16, .inl (cy 0, 11, .inl x0_16)), (a0 21, .inl (cy 0, 9, .inl x0_21)), (a0 39, .inl (cy 0, 40, .inl x0_39)), (a0 40, .inl (cy 0, 40, .inl x0_40)), (a0 42, .inl (cy 0, 40, .inl x0_42)), (a0 45, .inl (cy 0, 40, .inl x0_45)), (a0 46, .inl (cy 0, 40, .inl x0_46)), (a0 56, .inl (cy 0, 9, .inl x0_56)), (a0 57, .inl (cy 0, 9, .inl x0_57))]
def rm_Mo_cracked : Room := { frames := 4, cells := 0, slots := 0, locals := 107 }
theorem rm_ok_Mo_cracked_Mo_areEvenings : rm_Mo_areEvenings.cells = 0 ∧ rm_Mo_areEvenings.slots = 0 ∧ rm_Mo_areEvenings.frames + 1 ≤ rm_Mo_cracked.frames ∧ 8 + (5 + 11) + rm_Mo_areEvenings.locals ≤ rm_Mo_cracked.locals := by decide
theorem rm_ok_Mo_cracked_Mo_clearTried : rm_Mo_clearTried.cells = 0 ∧ rm_Mo_clearTried.slots = 0 ∧ rm_Mo_clearTried.frames + 1 ≤ rm_Mo_cracked.frames ∧ 8 + (2 + 11) + rm_Mo_clearTried.locals ≤ rm_Mo_cracked.locals := by decide
theorem rm_ok_Mo_cracked_Mo_nextTried : rm_Mo_nextTried.cells = 0 ∧ rm_Mo_nextTried.slots = 0 ∧ rm_Mo_nextTried.frames + 1 ≤ rm_Mo_cracked.frames ∧ 8 + (2 + 11) + rm_Mo_nextTried.locals ≤ rm_Mo_cracked.locals := by decide
theorem rm_ok_Mo_cracked_Mo_putDown : rm_Mo_putDown.cells = 0 ∧ rm_Mo_putDown.slots = 0 ∧ rm_Mo_putDown.frames + 1 ≤ rm_Mo_cracked.frames ∧ 8 + (2 + 11) + rm_Mo_putDown.locals ≤ rm_Mo_cracked.locals := by decide
theorem rm_ok_Mo_cracked_Mo_triedSum : rm_Mo_triedSum.cells = 0 ∧ rm_Mo_triedSum.slots = 0 ∧ rm_Mo_triedSum.frames + 1 ≤ rm_Mo_cracked.frames ∧ 8 + (3 + 11) + rm_Mo_triedSum.locals ≤ rm_Mo_cracked.locals := by decide
set_option maxHeartbeats 4000000 in
set_option maxRecDepth 100000 in
theorem k_Mo_cracked_b64 {p : Program} {l : Launch} {e : Env} {s : State} {m : MethodId} {args : Array Value} {below : List Frame} {meth : Method} {c : Code} {dC : Nat → ClassId} {dI : Nat → Nat → Nat} {cy : Nat → ClassId} {A : Nat → Prop} {o0 : Nat} {a0 : Nat → Nat} {N : Nat} {kh25 : zSt → Int32 → Int32 → Option (Int32 × zSt)} {y : Int32 × zSt} (C0 : zCx p s m args meth c cX11_cracked 4 (some .int) RX11 (dC, dI) cy) (s0 : zSt) (v1 : Int32) (v2 : Int32) (hk25 : ∀ (s0 : zSt) (v2 : Int32) (v3 : Int32) {H : Heap} {locs : List Loc} (_ : va_P (dC, dI) vwCl (wd_Mo_cracked cy o0 a0 (zI s0) (zL s0) (zA s0 16) (zA s0 21) (zA s0 39) (zA s0 40) (zA s0 42) (zA s0 45) (zA s0 46) (zA s0 56) (zA s0 57)) H) (_ : va_D A (wd_Mo_cracked cy o0 a0 (zI s0) (zL s0) (zA s0 16) (zA s0 21) (zA s0 39) (zA s0 40) (zA s0 42) (zA s0 45) (zA s0 46) (zA s0 56) (zA s0 57))) (_ : va_S A s.heap H locs) (_ : kh25 s0 v2 v3 = some y) (ls : Array Slot) (_ : lv_has ls 4 [(0, .ref o0), (1, .int v1), (2, .int v2), (3, .int v3)]), W p l e rm_Mo_cracked s m args below meth c H locs 0 0 (MQ below (zQi y.1 (dC, dI) cy (wd_Mo_cracked cy o0 a0 (zI y.2) (zL y.2) (zA y.2 16) (zA y.2 21) (zA y.2 39) (zA y.2 40) (zA y.2 42) (zA y.2 45) (zA y.2 46) (zA y.2 56) (zA y.2 57)) A) args s 0 0 A) (F0 m 25 ls [])) (hA : ∀ q, s.heap.size ≤ q → A q) {H : Heap} {locs : List Loc} (hP : va_P (dC, dI) vwCl (wd_Mo_cracked cy o0 a0 (zI s0) (zL s0) (zA s0 16) (zA s0 21) (zA s0 39) (zA s0 40) (zA s0 42) (zA s0 45) (zA s0 46) (zA s0 56) (zA s0 57)) H) (hD : va_D A (wd_Mo_cracked cy o0 a0 (zI s0) (zL s0) (zA s0 16) (zA s0 21) (zA s0 39) (zA s0 40) (zA s0 42) (zA s0 45) (zA s0 46) (zA s0 56) (zA s0 57))) (hS : va_S A s.heap H locs) (hf : Mo_cracked_b64 N kh25 s0 v1 v2 = some y) (ls : Array Slot) (hl : lv_has ls 4 [(0, .ref o0), (1, .int v1), (2, .int v2)]) : W p l e rm_Mo_cracked s m args below meth c H locs 0 0 (MQ below (zQi y.1 (dC, dI) cy (wd_Mo_cracked cy o0 a0 (zI y.2) (zL y.2) (zA y.2 16) (zA y.2 21) (zA y.2 39) (zA y.2 40) (zA y.2 42) (zA y.2 45) (zA y.2 46) (zA y.2 56) (zA y.2 57)) A) args s 0 0 A) (F0 m 64 ls []) := by
  obtain ⟨hx, hb, hr, hml, hown, hT, hk, hK⟩ := id C0
  refine lv_aload_n hx hb dX11_cracked_64 rfl (lv_at hl 0 rfl) ?_
  obtain ⟨z1, hc2, hf⟩ := zbd_some hf
  refine zwi (wr := [(a0 16, .inl (cy 0, 11, .inl (zA s0 16))), (a0 21, .inl (cy 0, 9, .inl (zA s0 21))), (a0 39, .inl (cy 0, 40, .inl (zA s0 39))), (a0 40, .inl (cy 0, 40, .inl (zA s0 40))), (a0 42, .inl (cy 0, 40, .inl (zA s0 42))), (a0 45, .inl (cy 0, 40, .inl (zA s0 45))), (a0 46, .inl (cy 0, 40, .inl (zA s0 46))), (a0 57, .inl (cy 0, 9, .inl (zA s0 57)))]) (ws' := (wd_Mo_cracked cy o0 a0 (zI z1.2) (zL z1.2) (zA s0 16) (zA s0 21) (zA s0 39) (zA s0 40) (zA s0 42) (zA s0 45) (zA s0 46) (zA z1.2 56) (zA s0 57))) (zV (As := []) hx hb hml hown hT hl.1 (c_Mo_nextTried o0 a0 s0 hc2) zY_Mo_nextTried tb_1474 (zpRw hK hP hD [0, 8] (by decide) rfl 0 11 rfl rfl rfl rfl) rm_ok_Mo_cracked_Mo_nextTried rfl rfl (Nat.le_of_ble_eq_true rfl) dX11_cracked_65 ⟨Nat.zero_le _, Nat.zero_le _⟩) hP hD hS hA [0, 8] [1, 2, 3, 4, 5, 6, 7, 9] [8, 0, 1, 2, 3, 4, 5, 6, 9, 7] rfl rfl (by decide) (by decide) (by decide) rfl rfl (fun H locs hP hD hS => ?_)
  refine lv_istore_n (lv' := [(3, .int z1.1), (0, .ref o0), (1, .int v1), (2, .int v2)]) hx hb dX11_cracked_68 rfl hl (by decide) rfl (fun ls hl => ?_)
  refine lv_goto (tgt := 25) hx hb dX11_cracked_69 (by decide) ?_
  exact hk25 (zmg [16,21,39,40,42,45,46,57] z1.2 s0) v2 z1.1 hP hD hS hf _ (lv_sub hl [1, 2, 3, 0] rfl)
set_option maxHeartbeats 4000000 in
set_option maxRecDepth 100000 in
theorem k_Mo_cracked_b55 {p : Program} {l : Launch} {e : Env} {s : State} {m : MethodId} {args : Array Value} {below : List Frame} {meth : Method} {c : Code} {dC : Nat → ClassId} {dI : Nat → Nat → Nat} {cy : Nat → ClassId} {A : Nat → Prop} {o0 : Nat} {a0 : Nat → Nat} {N : Nat} {kh25 : zSt → Int32 → Int32 → Option (Int32 × zSt)} {y : Int32 × zSt} (C0 : zCx p s m args meth c cX11_cracked 4 (some .int) RX11 (dC, dI) cy) (s0 : zSt) (v1 : Int32) (hk25 : ∀ (s0 : zSt) (v2 : Int32) (v3 : Int32) {H : Heap} {locs : List Loc} (_ : va_P (dC, dI) vwCl (wd_Mo_cracked cy o0 a0 (zI s0) (zL s0) (zA s0 16) (zA s0 21) (zA s0 39) (zA s0 40) (zA s0 42) (zA s0 45) (zA s0 46) (zA s0 56) (zA s0 57)) H) (_ : va_D A (wd_Mo_cracked cy o0 a0 (zI s0) (zL s0) (zA s0 16) (zA s0 21) (zA s0 39) (zA s0 40) (zA s0 42) (zA s0 45) (zA s0 46) (zA s0 56) (zA s0 57))) (_ : va_S A s.heap H locs) (_ : kh25 s0 v2 v3 = some y) (ls : Array Slot) (_ : lv_has ls 4 [(0, .ref o0), (1, .int v1), (2, .int v2), (3, .int v3)]), W p l e rm_Mo_cracked s m args below meth c H locs 0 0 (MQ below (zQi y.1 (dC, dI) cy (wd_Mo_cracked cy o0 a0 (zI y.2) (zL y.2) (zA y.2 16) (zA y.2 21) (zA y.2 39) (zA y.2 40) (zA y.2 42) (zA y.2 45) (zA y.2 46) (zA y.2 56) (zA y.2 57)) A) args s 0 0 A) (F0 m 25 ls [])) (hA : ∀ q, s.heap.size ≤ q → A q) {H : Heap} {locs : List Loc} (hP : va_P (dC, dI) vwCl (wd_Mo_cracked cy o0 a0 (zI s0) (zL s0) (zA s0 16) (zA s0 21) (zA s0 39) (zA s0 40) (zA s0 42) (zA s0 45) (zA s0 46) (zA s0 56) (zA s0 57)) H) (hD : va_D A (wd_Mo_cracked cy o0 a0 (zI s0) (zL s0) (zA s0 16) (zA s0 21) (zA s0 39) (zA s0 40) (zA s0 42) (zA s0 45) (zA s0 46) (zA s0 56) (zA s0 57))) (hS : va_S A s.heap H locs) (hf : Mo_cracked_b55 N kh25 s0 v1 = some y) (ls : Array Slot) (hl : lv_has ls 4 [(0, .ref o0), (1, .int v1)]) : W p l e rm_Mo_cracked s m args below meth c H locs 0 0 (MQ below (zQi y.1 (dC, dI) cy (wd_Mo_cracked cy o0 a0 (zI y.2) (zL y.2) (zA y.2 16) (zA y.2 21) (zA y.2 39) (zA y.2 40) (zA y.2 42) (zA y.2 45) (zA y.2 46) (zA y.2 56) (zA y.2 57)) A) args s 0 0 A) (F0 m 55 ls []) := by
  obtain ⟨hx, hb, hr, hml, hown, hT, hk, hK⟩ := id C0
  refine lv_aload_n hx hb dX11_cracked_55 rfl (lv_at hl 0 rfl) ?_
  obtain ⟨z1, hc2, hf⟩ := zbd_some hf
  refine zri (zV (As := []) hx hb hml hown hT hl.1 (c_Mo_triedSum o0 a0 s0 hc2) zY_Mo_triedSum tb_1466 (zpR hK hP [0, 8] rfl 0 11 rfl rfl rfl) rm_ok_Mo_cracked_Mo_triedSum rfl rfl (Nat.le_of_ble_eq_true rfl) dX11_cracked_56 ⟨Nat.zero_le _, Nat.zero_le _⟩) ?_
  refine lv_istore_n (lv' := [(2, .int z1), (0, .ref o0), (1, .int v1)]) hx hb dX11_cracked_59 rfl hl (by decide) rfl (fun ls hl => ?_)
  refine lv_aload_n hx hb dX11_cracked_60 rfl (lv_at hl 1 rfl) ?_
  obtain ⟨z3, hc4, hf⟩ := zbd_some hf
  refine zwv (wr := [(a0 16, .inl (cy 0, 11, .inl (zA s0 16))), (a0 21, .inl (cy 0, 9, .inl (zA s0 21))), (a0 39, .inl (cy 0, 40, .inl (zA s0 39))), (a0 40, .inl (cy 0, 40, .inl (zA s0 40))), (a0 42, .inl (cy 0, 40, .inl (zA s0 42))), (a0 45, .inl (cy 0, 40, .inl (zA s0 45))), (a0 46, .inl (cy 0, 40, .inl (zA s0 46)))]) (ws' := (wd_Mo_cracked cy o0 a0 (zI z3) (zL z3) (zA s0 16) (zA s0 21) (zA s0 39) (zA s0 40) (zA s0 42) (zA s0 45) (zA s0 46) (zA z3 56) (zA z3 57))) (zV (As := []) hx hb hml hown hT hl.1 (c_Mo_putDown o0 a0 s0 hc4) zY_Mo_putDown tb_1470 (zpRw hK hP hD [0, 8, 9] (by decide) rfl 0 11 rfl rfl rfl rfl) rm_ok_Mo_cracked_Mo_putDown rfl rfl (Nat.le_of_ble_eq_true rfl) dX11_cracked_61 ⟨Nat.zero_le _, Nat.zero_le _⟩) hP hD hS hA [0, 8, 9] [1, 2, 3, 4, 5, 6, 7] [7, 0, 1, 2, 3, 4, 5, 6, 8, 9] rfl rfl (by decide) (by decide) (by decide) rfl rfl (fun H locs hP hD hS => ?_)
  exact k_Mo_cracked_b64 C0 (zmg [16,21,39,40,42,45,46] z3 s0) v1 z1 hk25 hA hP hD hS hf _ (lv_sub hl [1, 2, 0] rfl)
set_option maxHeartbeats 4000000 in
set_option maxRecDepth 100000 in
theorem k_Mo_cracked_b25 {p : Program} {l : Launch} {e : Env} {s : State} {m : MethodId} {args : Array Value} {below : List Frame} {meth : Method} {c : Code} {dC : Nat → ClassId} {dI : Nat → Nat → Nat} {cy : Nat → ClassId} {A : Nat → Prop} {o0 : Nat} {a0 : Nat → Nat} {N : Nat} {kh25 : zSt → Int32 → Int32 → Option (Int32 × zSt)} {y : Int32 × zSt} (C0 : zCx p s m args meth c cX11_cracked 4 (some .int) RX11 (dC, dI) cy) (s0 : zSt) (v1 : Int32) (v2 : Int32) (v3 : Int32) (hk25 : ∀ (s0 : zSt) (v2 : Int32) (v3 : Int32) {H : Heap} {locs : List Loc} (_ : va_P (dC, dI) vwCl (wd_Mo_cracked cy o0 a0 (zI s0) (zL s0) (zA s0 16) (zA s0 21) (zA s0 39) (zA s0 40) (zA s0 42) (zA s0 45) (zA s0 46) (zA s0 56) (zA s0 57)) H) (_ : va_D A (wd_Mo_cracked cy o0 a0 (zI s0) (zL s0) (zA s0 16) (zA s0 21) (zA s0 39) (zA s0 40) (zA s0 42) (zA s0 45) (zA s0 46) (zA s0 56) (zA s0 57))) (_ : va_S A s.heap H locs) (_ : kh25 s0 v2 v3 = some y) (ls : Array Slot) (_ : lv_has ls 4 [(0, .ref o0), (1, .int v1), (2, .int v2), (3, .int v3)]), W p l e rm_Mo_cracked s m args below meth c H locs 0 0 (MQ below (zQi y.1 (dC, dI) cy (wd_Mo_cracked cy o0 a0 (zI y.2) (zL y.2) (zA y.2 16) (zA y.2 21) (zA y.2 39) (zA y.2 40) (zA y.2 42) (zA y.2 45) (zA y.2 46) (zA y.2 56) (zA y.2 57)) A) args s 0 0 A) (F0 m 25 ls [])) (hA : ∀ q, s.heap.size ≤ q → A q) {H : Heap} {locs : List Loc} (hP : va_P (dC, dI) vwCl (wd_Mo_cracked cy o0 a0 (zI s0) (zL s0) (zA s0 16) (zA s0 21) (zA s0 39) (zA s0 40) (zA s0 42) (zA s0 45) (zA s0 46) (zA s0 56) (zA s0 57)) H) (hD : va_D A (wd_Mo_cracked cy o0 a0 (zI s0) (zL s0) (zA s0 16) (zA s0 21) (zA s0 39) (zA s0 40) (zA s0 42) (zA s0 45) (zA s0 46) (zA s0 56) (zA s0 57))) (hS : va_S A s.heap H locs) (hf : Mo_cracked_b25 N kh25 s0 v1 v2 v3 = some y) (ls : Array Slot) (hl : lv_has ls 4 [(0, .ref o0), (1, .int v1), (2, .int v2), (3, .int v3)]) : W p l e rm_Mo_cracked s m args below meth c H locs 0 0 (MQ below (zQi y.1 (dC, dI) cy (wd_Mo_cracked cy o0 a0 (zI y.2) (zL y.2) (zA y.2 16) (zA y.2 21) (zA y.2 39) (zA y.2 40) (zA y.2 42) (zA y.2 45) (zA y.2 46) (zA y.2 56) (zA y.2 57)) A) args s 0 0 A) (F0 m 25 ls []) := by
  obtain ⟨hx, hb, hr, hml, hown, hT, hk, hK⟩ := id C0
  refine lv_iload_n hx hb dX11_cracked_25 rfl (lv_at hl 3 rfl) ?_
  refine lv_if_eq (tgt := 72) hx hb dX11_cracked_26 (by decide) (fun hb_1 => ?_) (fun hb_1 => ?_)
  · have hf := zif_t hb_1 hf
    refine lv_iload_n hx hb dX11_cracked_72 rfl (lv_at hl 2 rfl) ?_
    cases hf
    exact zewi hx hb hr hk hK hP hD hS dX11_cracked_73
  · have hf := zif_f hb_1 hf
    refine lv_aload_n hx hb dX11_cracked_29 rfl (lv_at hl 0 rfl) ?_
    refine lv_iload_n hx hb dX11_cracked_30 rfl (lv_at hl 1 rfl) ?_
    refine lv_aload_n hx hb dX11_cracked_31 rfl (lv_at hl 0 rfl) ?_
    refine zget (v := .int (zI s0 47)) hx hb hown hT hK hP inX11 rfl smX11 0 rfl 47 (by decide) tb_1049 rfl dX11_cracked_32 ?_
    refine lv_iconst (v := 1) hx hb dX11_cracked_35 (by decide) ?_
    refine lv_isub hx hb dX11_cracked_36 ?_
    obtain ⟨z2, hc3, hf⟩ := zbd_some hf
    refine zri (zV (As := [.int v1, .int ((zI s0 47) - 1)]) hx hb hml hown hT hl.1 (c_Mo_areEvenings o0 a0 s0 v1 ((zI s0 47) - 1) hc3) zY_Mo_areEvenings tb_1458 (zpR hK hP [0, 1, 2, 3, 4, 5, 6, 7, 8] rfl 0 11 rfl rfl rfl) rm_ok_Mo_cracked_Mo_areEvenings rfl rfl (Nat.le_of_ble_eq_true rfl) dX11_cracked_37 ⟨Nat.zero_le _, Nat.zero_le _⟩) ?_
    refine lv_if_eq (tgt := 64) hx hb dX11_cracked_40 (by decide) (fun hb_4 => ?_) (fun hb_4 => ?_)
    · have hf := zif_t hb_4 hf
      exact k_Mo_cracked_b64 C0 s0 v1 v2 hk25 hA hP hD hS hf _ (lv_sub hl [0, 1, 2] rfl)
    · have hf := zif_f hb_4 hf
      refine lv_iload_n hx hb dX11_cracked_43 rfl (lv_at hl 2 rfl) ?_
      refine lv_if_lt (tgt := 55) hx hb dX11_cracked_44 (by decide) (fun hb_5 => ?_) (fun hb_5 => ?_)
      · have hf := zif_t hb_5 hf
        exact k_Mo_cracked_b55 C0 s0 v1 hk25 hA hP hD hS hf _ (lv_sub hl [0, 1] rfl)
      · have hf := zif_f hb_5 hf
        refine lv_aload_n hx hb dX11_cracked_47 rfl (lv_at hl 0 rfl) ?_
        obtain ⟨z6, hc7, hf⟩ := zbd_some hf
        refine zri (zV (As := []) hx hb hml hown hT hl.1 (c_Mo_triedSum o0 a0 s0 hc7) zY_Mo_triedSum tb_1466 (zpR hK hP [0, 8] rfl 0 11 rfl rfl rfl) rm_ok_Mo_cracked_Mo_triedSum rfl rfl (Nat.le_of_ble_eq_true rfl) dX11_cracked_48 ⟨Nat.zero_le _, Nat.zero_le _⟩) ?_
        refine lv_iload_n hx hb dX11_cracked_51 rfl (lv_at hl 2 rfl) ?_
        refine lv_icmp_ge (tgt := 64) hx hb dX11_cracked_52 (by decide) (fun hb_8 => ?_) (fun hb_8 => ?_)
        · have hf := zif_t hb_8 hf
          exact k_Mo_cracked_b64 C0 s0 v1 v2 hk25 hA hP hD hS hf _ (lv_sub hl [0, 1, 2] rfl)
        · have hf := zif_f hb_8 hf
          exact k_Mo_cracked_b55 C0 s0 v1 hk25 hA hP hD hS hf _ (lv_sub hl [0, 1] rfl)
set_option maxHeartbeats 4000000 in
set_option maxRecDepth 100000 in
theorem k_Mo_cracked_h25 {p : Program} {l : Launch} {e : Env} {s : State} {m : MethodId} {args : Array Value} {below : List Frame} {meth : Method} {c : Code} {dC : Nat → ClassId} {dI : Nat → Nat → Nat} {cy : Nat → ClassId} {A : Nat → Prop} {o0 : Nat} {a0 : Nat → Nat} {N : Nat} {y : Int32 × zSt} (C0 : zCx p s m args meth c cX11_cracked 4 (some .int) RX11 (dC, dI) cy) (v1 : Int32) (hA : ∀ q, s.heap.size ≤ q → A q) : ∀ (n : Nat) (s0 : zSt) (v2 : Int32) (v3 : Int32) {H : Heap} {locs : List Loc} (hP : va_P (dC, dI) vwCl (wd_Mo_cracked cy o0 a0 (zI s0) (zL s0) (zA s0 16) (zA s0 21) (zA s0 39) (zA s0 40) (zA s0 42) (zA s0 45) (zA s0 46) (zA s0 56) (zA s0 57)) H) (hD : va_D A (wd_Mo_cracked cy o0 a0 (zI s0) (zL s0) (zA s0 16) (zA s0 21) (zA s0 39) (zA s0 40) (zA s0 42) (zA s0 45) (zA s0 46) (zA s0 56) (zA s0 57))) (hS : va_S A s.heap H locs) (hf : Mo_cracked_h25 N v1 n s0 v2 v3 = some y) (ls : Array Slot) (hl : lv_has ls 4 [(0, .ref o0), (1, .int v1), (2, .int v2), (3, .int v3)]), W p l e rm_Mo_cracked s m args below meth c H locs 0 0 (MQ below (zQi y.1 (dC, dI) cy (wd_Mo_cracked cy o0 a0 (zI y.2) (zL y.2) (zA y.2 16) (zA y.2 21) (zA y.2 39) (zA y.2 40) (zA y.2 42) (zA y.2 45) (zA y.2 46) (zA y.2 56) (zA y.2 57)) A) args s 0 0 A) (F0 m 25 ls []) := by
  intro n
  induction n with
  | zero => intro s0 v2 v3 H locs hP hD hS hf; cases hf
  | succ n ih =>
    intro s0 v2 v3 H locs hP hD hS hf ls hl
    have hf : Mo_cracked_b25 N (Mo_cracked_h25 N v1 n) s0 v1 v2 v3 = some y := hf
    exact k_Mo_cracked_b25 C0 s0 v1 v2 v3 (fun s0 v2 v3 _ _ hP hD hS hf ls hl => ih s0 v2 v3 hP hD hS hf ls hl) hA hP hD hS hf ls hl
set_option maxHeartbeats 4000000 in
set_option maxRecDepth 100000 in
theorem k_Mo_cracked_b0 {p : Program} {l : Launch} {e : Env} {s : State} {m : MethodId} {args : Array Value} {below : List Frame} {meth : Method} {c : Code} {dC : Nat → ClassId} {dI : Nat → Nat → Nat} {cy : Nat → ClassId} {A : Nat → Prop} {o0 : Nat} {a0 : Nat → Nat} {N : Nat} {y : Int32 × zSt} (C0 : zCx p s m args meth c cX11_cracked 4 (some .int) RX11 (dC, dI) cy) (s0 : zSt) (v1 : Int32) (hA : ∀ q, s.heap.size ≤ q → A q) {H : Heap} {locs : List Loc} (hP : va_P (dC, dI) vwCl (wd_Mo_cracked cy o0 a0 (zI s0) (zL s0) (zA s0 16) (zA s0 21) (zA s0 39) (zA s0 40) (zA s0 42) (zA s0 45) (zA s0 46) (zA s0 56) (zA s0 57)) H) (hD : va_D A (wd_Mo_cracked cy o0 a0 (zI s0) (zL s0) (zA s0 16) (zA s0 21) (zA s0 39) (zA s0 40) (zA s0 42) (zA s0 45) (zA s0 46) (zA s0 56) (zA s0 57))) (hS : va_S A s.heap H locs) (hf : Mo_cracked_b0 N s0 v1 = some y) (ls : Array Slot) (hl : lv_has ls 4 [(0, .ref o0), (1, .int v1)]) : W p l e rm_Mo_cracked s m args below meth c H locs 0 0 (MQ below (zQi y.1 (dC, dI) cy (wd_Mo_cracked cy o0 a0 (zI y.2) (zL y.2) (zA y.2 16) (zA y.2 21) (zA y.2 39) (zA y.2 40) (zA y.2 42) (zA y.2 45) (zA y.2 46) (zA y.2 56) (zA y.2 57)) A) args s 0 0 A) (F0 m 0 ls []) := by
  obtain ⟨hx, hb, hr, hml, hown, hT, hk, hK⟩ := id C0
  refine lv_aload_n hx hb dX11_cracked_0 rfl (lv_at hl 0 rfl) ?_
  refine lv_iconst (v := 0) hx hb dX11_cracked_1 (by decide) ?_
  refine zput (fs' := fs_Mo a0 (upd (zI s0) 58 0) (zL s0)) (ws' := (wd_Mo_cracked cy o0 a0 (upd (zI s0) 58 0) (zL s0) (zA s0 16) (zA s0 21) (zA s0 39) (zA s0 40) (zA s0 42) (zA s0 45) (zA s0 46) (zA s0 56) (zA s0 57))) hx hb hown hT hK hP hD hS inX11 rfl smX11 tyX11_ok nmX11 0 rfl 58 (by decide) tb_1060 rfl rfl rfl (Nat.le_of_ble_eq_true rfl) rfl rfl dX11_cracked_2 (fun H locs hP hD hS => ?_)
  refine lv_aload_n hx hb dX11_cracked_5 rfl (lv_at hl 0 rfl) ?_
  refine zget (v := .int (zI s0 30)) hx hb hown hT hK hP inX11 rfl smX11 0 rfl 30 (by decide) tb_1032 rfl dX11_cracked_6 ?_
  refine lv_bipush (v := 8) hx hb dX11_cracked_9 (by decide) ?_
  refine lv_icmp_le (tgt := 17) hx hb dX11_cracked_11 (by decide) (fun hb_1 => ?_) (fun hb_1 => ?_)
  · have hf := zif_t hb_1 hf
    refine lv_aload_n hx hb dX11_cracked_17 rfl (lv_at hl 0 rfl) ?_
    obtain ⟨z2, hc3, hf⟩ := zbd_some hf
    refine zwv (wr := [(a0 16, .inl (cy 0, 11, .inl (zA s0 16))), (a0 21, .inl (cy 0, 9, .inl (zA s0 21))), (a0 39, .inl (cy 0, 40, .inl (zA s0 39))), (a0 40, .inl (cy 0, 40, .inl (zA s0 40))), (a0 42, .inl (cy 0, 40, .inl (zA s0 42))), (a0 45, .inl (cy 0, 40, .inl (zA s0 45))), (a0 46, .inl (cy 0, 40, .inl (zA s0 46))), (a0 57, .inl (cy 0, 9, .inl (zA s0 57)))]) (ws' := (wd_Mo_cracked cy o0 a0 (zI z2) (zL z2) (zA s0 16) (zA s0 21) (zA s0 39) (zA s0 40) (zA s0 42) (zA s0 45) (zA s0 46) (zA z2 56) (zA s0 57))) (zV (As := []) hx hb hml hown hT hl.1 (c_Mo_clearTried o0 a0 (zpI s0 58 0) hc3) zY_Mo_clearTried tb_1454 (zpRw hK hP hD [0, 8] (by decide) rfl 0 11 rfl rfl rfl rfl) rm_ok_Mo_cracked_Mo_clearTried rfl rfl (Nat.le_of_ble_eq_true rfl) dX11_cracked_18 ⟨Nat.zero_le _, Nat.zero_le _⟩) hP hD hS hA [0, 8] [1, 2, 3, 4, 5, 6, 7, 9] [8, 0, 1, 2, 3, 4, 5, 6, 9, 7] rfl rfl (by decide) (by decide) (by decide) rfl rfl (fun H locs hP hD hS => ?_)
    refine lv_iconst (v := (-1)) hx hb dX11_cracked_21 (by decide) ?_
    refine lv_istore_n (lv' := [(2, .int (-1)), (0, .ref o0), (1, .int v1)]) hx hb dX11_cracked_22 rfl hl (by decide) rfl (fun ls hl => ?_)
    refine lv_iconst (v := 1) hx hb dX11_cracked_23 (by decide) ?_
    refine lv_istore_n (lv' := [(3, .int 1), (2, .int (-1)), (0, .ref o0), (1, .int v1)]) hx hb dX11_cracked_24 rfl hl (by decide) rfl (fun ls hl => ?_)
    exact k_Mo_cracked_h25 C0 v1  hA N (zmg [16,21,39,40,42,45,46,57] z2 (zpI s0 58 0)) (-1) 1 hP hD hS hf _ (lv_sub hl [2, 3, 1, 0] rfl)
  · have hf := zif_f hb_1 hf
    refine lv_bipush (v := (-2)) hx hb dX11_cracked_14 (by decide) ?_
    cases hf
    exact zewi hx hb hr hk hK hP hD hS dX11_cracked_16
set_option maxHeartbeats 4000000 in
set_option maxRecDepth 100000 in
theorem c_Mo_cracked {l : Launch} {dC : Nat → ClassId} {dI : Nat → Nat → Nat} {cy : Nat → ClassId} {sz : Nat} {N : Nat} (o0 : Nat) (a0 : Nat → Nat) (s0 : zSt) (v1 : Int32) {y : Int32 × zSt} (hf : Mo_cracked N s0 v1 = some y) : Met l yX11_cracked (.code yX11_cracked cX11_cracked 4 (some .int) :: zt) rm_Mo_cracked (va_Pc [.ref o0, .int v1] (zPre (dC, dI) cy (wd_Mo_cracked cy o0 a0 (zI s0) (zL s0) (zA s0 16) (zA s0 21) (zA s0 39) (zA s0 40) (zA s0 42) (zA s0 45) (zA s0 46) (zA s0 56) (zA s0 57)) sz)) (zQi y.1 (dC, dI) cy (wd_Mo_cracked cy o0 a0 (zI y.2) (zL y.2) (zA y.2 16) (zA y.2 21) (zA y.2 39) (zA y.2 40) (zA y.2 42) (zA y.2 45) (zA y.2 46) (zA y.2 56) (zA y.2 57)) (va_A (wd_Mo_cracked cy o0 a0 (zI s0) (zL s0) (zA s0 16) (zA s0 21) (zA s0 39) (zA s0 40) (zA s0 42) (zA s0 45) (zA s0 46) (zA s0 56) (zA s0 57)) sz)) 0 0 (va_A (wd_Mo_cracked cy o0 a0 (zI s0) (zL s0) (zA s0 16) (zA s0 21) (zA s0 39) (zA s0 40) (zA s0 42) (zA s0 45) (zA s0 46) (zA s0 56) (zA s0 57)) sz) :=
  zentW (Qw := fun A => (zQi y.1 (dC, dI) cy (wd_Mo_cracked cy o0 a0 (zI y.2) (zL y.2) (zA y.2 16) (zA y.2 21) (zA y.2 39) (zA y.2 40) (zA y.2 42) (zA y.2 45) (zA y.2 46) (zA y.2 56) (zA y.2 57)) A)) (by decide +kernel) (Nat.le_of_ble_eq_true rfl) (fun p e s m below meth c A C0 hA hP hD hS ls hl => k_Mo_cracked_b0 C0 s0 v1 hA hP hD hS hf ls hl)
def wd_Mo_canBe (cy : Nat → ClassId) (o0 : Nat) (a0 : Nat → Nat) (g0 : Nat → Int32) (h0 : Nat → Int64) (x0_16 : Nat → Int32) (x0_21 : Nat → Int32) (x0_39 : Nat → Int32) (x0_40 : Nat → Int32) (x0_42 : Nat → Int32) (x0_45 : Nat → Int32) (x0_46 : Nat → Int32) (x0_56 : Nat → Int32) : va_W := [(o0, .inr (11, fs_Mo a0 g0 h0)), (a0 16, .inl (cy 0, 11, .inl x0_16)), (a0 21, .inl (cy 0, 9, .inl x0_21)), (a0 39, .inl (cy 0, 40, .inl x0_39)), (a0 40, .inl (cy 0, 40, .inl x0_40)), (a0 42, .inl (cy 0, 40, .inl x0_42)), (a0 45, .inl (cy 0, 40, .inl x0_45)), (a0 46, .inl (cy 0, 40, .inl x0_46)), (a0 56, .inl (cy 0, 9, .inl x0_56))]
def rm_Mo_canBe : Room := { frames := 4, cells := 0, slots := 0, locals := 107 }
theorem rm_ok_Mo_canBe_Mo_areEvenings : rm_Mo_areEvenings.cells = 0 ∧ rm_Mo_areEvenings.slots = 0 ∧ rm_Mo_areEvenings.frames + 1 ≤ rm_Mo_canBe.frames ∧ 8 + (5 + 11) + rm_Mo_areEvenings.locals ≤ rm_Mo_canBe.locals := by decide
theorem rm_ok_Mo_canBe_Mo_clearTried : rm_Mo_clearTried.cells = 0 ∧ rm_Mo_clearTried.slots = 0 ∧ rm_Mo_clearTried.frames + 1 ≤ rm_Mo_canBe.frames ∧ 8 + (2 + 11) + rm_Mo_clearTried.locals ≤ rm_Mo_canBe.locals := by decide
theorem rm_ok_Mo_canBe_Mo_nextTried : rm_Mo_nextTried.cells = 0 ∧ rm_Mo_nextTried.slots = 0 ∧ rm_Mo_nextTried.frames + 1 ≤ rm_Mo_canBe.frames ∧ 8 + (2 + 11) + rm_Mo_nextTried.locals ≤ rm_Mo_canBe.locals := by decide
set_option maxHeartbeats 4000000 in
set_option maxRecDepth 100000 in
theorem k_Mo_canBe_b6 {p : Program} {l : Launch} {e : Env} {s : State} {m : MethodId} {args : Array Value} {below : List Frame} {meth : Method} {c : Code} {dC : Nat → ClassId} {dI : Nat → Nat → Nat} {cy : Nat → ClassId} {A : Nat → Prop} {o0 : Nat} {a0 : Nat → Nat} {N : Nat} {kh6 : zSt → Int32 → Option (Int32 × zSt)} {y : Int32 × zSt} (C0 : zCx p s m args meth c cX11_canBe 4 (some .boolean) RX11 (dC, dI) cy) (s0 : zSt) (v1 : Int32) (v2 : Int32) (v3 : Int32) (hk6 : ∀ (s0 : zSt) (v3 : Int32) {H : Heap} {locs : List Loc} (_ : va_P (dC, dI) vwCl (wd_Mo_canBe cy o0 a0 (zI s0) (zL s0) (zA s0 16) (zA s0 21) (zA s0 39) (zA s0 40) (zA s0 42) (zA s0 45) (zA s0 46) (zA s0 56)) H) (_ : va_D A (wd_Mo_canBe cy o0 a0 (zI s0) (zL s0) (zA s0 16) (zA s0 21) (zA s0 39) (zA s0 40) (zA s0 42) (zA s0 45) (zA s0 46) (zA s0 56))) (_ : va_S A s.heap H locs) (_ : kh6 s0 v3 = some y) (ls : Array Slot) (_ : lv_has ls 4 [(0, .ref o0), (1, .int v1), (2, .int v2), (3, .int v3)]), W p l e rm_Mo_canBe s m args below meth c H locs 0 0 (MQ below (zQi y.1 (dC, dI) cy (wd_Mo_canBe cy o0 a0 (zI y.2) (zL y.2) (zA y.2 16) (zA y.2 21) (zA y.2 39) (zA y.2 40) (zA y.2 42) (zA y.2 45) (zA y.2 46) (zA y.2 56)) A) args s 0 0 A) (F0 m 6 ls [])) (hA : ∀ q, s.heap.size ≤ q → A q) {H : Heap} {locs : List Loc} (hP : va_P (dC, dI) vwCl (wd_Mo_canBe cy o0 a0 (zI s0) (zL s0) (zA s0 16) (zA s0 21) (zA s0 39) (zA s0 40) (zA s0 42) (zA s0 45) (zA s0 46) (zA s0 56)) H) (hD : va_D A (wd_Mo_canBe cy o0 a0 (zI s0) (zL s0) (zA s0 16) (zA s0 21) (zA s0 39) (zA s0 40) (zA s0 42) (zA s0 45) (zA s0 46) (zA s0 56))) (hS : va_S A s.heap H locs) (hf : Mo_canBe_b6 N kh6 s0 v1 v2 v3 = some y) (ls : Array Slot) (hl : lv_has ls 4 [(0, .ref o0), (1, .int v1), (2, .int v2), (3, .int v3)]) : W p l e rm_Mo_canBe s m args below meth c H locs 0 0 (MQ below (zQi y.1 (dC, dI) cy (wd_Mo_canBe cy o0 a0 (zI y.2) (zL y.2) (zA y.2 16) (zA y.2 21) (zA y.2 39) (zA y.2 40) (zA y.2 42) (zA y.2 45) (zA y.2 46) (zA y.2 56)) A) args s 0 0 A) (F0 m 6 ls []) := by
  obtain ⟨hx, hb, hr, hml, hown, hT, hk, hK⟩ := id C0
  refine lv_iload_n hx hb dX11_canBe_6 rfl (lv_at hl 3 rfl) ?_
  refine lv_if_eq (tgt := 29) hx hb dX11_canBe_7 (by decide) (fun hb_1 => ?_) (fun hb_1 => ?_)
  · have hf := zif_t hb_1 hf
    refine lv_iconst (v := 0) hx hb dX11_canBe_29 (by decide) ?_
    cases hf
    exact zewz hx hb hr hk (Or.inl rfl) hK hP hD hS dX11_canBe_30
  · have hf := zif_f hb_1 hf
    refine lv_aload_n hx hb dX11_canBe_10 rfl (lv_at hl 0 rfl) ?_
    refine lv_iload_n hx hb dX11_canBe_11 rfl (lv_at hl 1 rfl) ?_
    refine lv_iload_n hx hb dX11_canBe_12 rfl (lv_at hl 2 rfl) ?_
    obtain ⟨z2, hc3, hf⟩ := zbd_some hf
    refine zri (zV (As := [.int v1, .int v2]) hx hb hml hown hT hl.1 (c_Mo_areEvenings o0 a0 s0 v1 v2 hc3) zY_Mo_areEvenings tb_1458 (zpR hK hP [0, 1, 2, 3, 4, 5, 6, 7, 8] rfl 0 11 rfl rfl rfl) rm_ok_Mo_canBe_Mo_areEvenings rfl rfl (Nat.le_of_ble_eq_true rfl) dX11_canBe_13 ⟨Nat.zero_le _, Nat.zero_le _⟩) ?_
    refine lv_if_eq (tgt := 21) hx hb dX11_canBe_16 (by decide) (fun hb_4 => ?_) (fun hb_4 => ?_)
    · have hf := zif_t hb_4 hf
      refine lv_aload_n hx hb dX11_canBe_21 rfl (lv_at hl 0 rfl) ?_
      obtain ⟨z5, hc6, hf⟩ := zbd_some hf
      refine zwi (wr := [(a0 16, .inl (cy 0, 11, .inl (zA s0 16))), (a0 21, .inl (cy 0, 9, .inl (zA s0 21))), (a0 39, .inl (cy 0, 40, .inl (zA s0 39))), (a0 40, .inl (cy 0, 40, .inl (zA s0 40))), (a0 42, .inl (cy 0, 40, .inl (zA s0 42))), (a0 45, .inl (cy 0, 40, .inl (zA s0 45))), (a0 46, .inl (cy 0, 40, .inl (zA s0 46)))]) (ws' := (wd_Mo_canBe cy o0 a0 (zI z5.2) (zL z5.2) (zA s0 16) (zA s0 21) (zA s0 39) (zA s0 40) (zA s0 42) (zA s0 45) (zA s0 46) (zA z5.2 56))) (zV (As := []) hx hb hml hown hT hl.1 (c_Mo_nextTried o0 a0 s0 hc6) zY_Mo_nextTried tb_1474 (zpRw hK hP hD [0, 8] (by decide) rfl 0 11 rfl rfl rfl rfl) rm_ok_Mo_canBe_Mo_nextTried rfl rfl (Nat.le_of_ble_eq_true rfl) dX11_canBe_22 ⟨Nat.zero_le _, Nat.zero_le _⟩) hP hD hS hA [0, 8] [1, 2, 3, 4, 5, 6, 7] [7, 0, 1, 2, 3, 4, 5, 6, 8] rfl rfl (by decide) (by decide) (by decide) rfl rfl (fun H locs hP hD hS => ?_)
      refine lv_istore_n (lv' := [(3, .int z5.1), (0, .ref o0), (1, .int v1), (2, .int v2)]) hx hb dX11_canBe_25 rfl hl (by decide) rfl (fun ls hl => ?_)
      refine lv_goto (tgt := 6) hx hb dX11_canBe_26 (by decide) ?_
      exact hk6 (zmg [16,21,39,40,42,45,46] z5.2 s0) z5.1 hP hD hS hf _ (lv_sub hl [1, 2, 3, 0] rfl)
    · have hf := zif_f hb_4 hf
      refine lv_iconst (v := 1) hx hb dX11_canBe_19 (by decide) ?_
      cases hf
      exact zewz hx hb hr hk (Or.inr rfl) hK hP hD hS dX11_canBe_20
set_option maxHeartbeats 4000000 in
set_option maxRecDepth 100000 in
theorem k_Mo_canBe_h6 {p : Program} {l : Launch} {e : Env} {s : State} {m : MethodId} {args : Array Value} {below : List Frame} {meth : Method} {c : Code} {dC : Nat → ClassId} {dI : Nat → Nat → Nat} {cy : Nat → ClassId} {A : Nat → Prop} {o0 : Nat} {a0 : Nat → Nat} {N : Nat} {y : Int32 × zSt} (C0 : zCx p s m args meth c cX11_canBe 4 (some .boolean) RX11 (dC, dI) cy) (v1 : Int32) (v2 : Int32) (hA : ∀ q, s.heap.size ≤ q → A q) : ∀ (n : Nat) (s0 : zSt) (v3 : Int32) {H : Heap} {locs : List Loc} (hP : va_P (dC, dI) vwCl (wd_Mo_canBe cy o0 a0 (zI s0) (zL s0) (zA s0 16) (zA s0 21) (zA s0 39) (zA s0 40) (zA s0 42) (zA s0 45) (zA s0 46) (zA s0 56)) H) (hD : va_D A (wd_Mo_canBe cy o0 a0 (zI s0) (zL s0) (zA s0 16) (zA s0 21) (zA s0 39) (zA s0 40) (zA s0 42) (zA s0 45) (zA s0 46) (zA s0 56))) (hS : va_S A s.heap H locs) (hf : Mo_canBe_h6 N v1 v2 n s0 v3 = some y) (ls : Array Slot) (hl : lv_has ls 4 [(0, .ref o0), (1, .int v1), (2, .int v2), (3, .int v3)]), W p l e rm_Mo_canBe s m args below meth c H locs 0 0 (MQ below (zQi y.1 (dC, dI) cy (wd_Mo_canBe cy o0 a0 (zI y.2) (zL y.2) (zA y.2 16) (zA y.2 21) (zA y.2 39) (zA y.2 40) (zA y.2 42) (zA y.2 45) (zA y.2 46) (zA y.2 56)) A) args s 0 0 A) (F0 m 6 ls []) := by
  intro n
  induction n with
  | zero => intro s0 v3 H locs hP hD hS hf; cases hf
  | succ n ih =>
    intro s0 v3 H locs hP hD hS hf ls hl
    have hf : Mo_canBe_b6 N (Mo_canBe_h6 N v1 v2 n) s0 v1 v2 v3 = some y := hf
    exact k_Mo_canBe_b6 C0 s0 v1 v2 v3 (fun s0 v3 _ _ hP hD hS hf ls hl => ih s0 v3 hP hD hS hf ls hl) hA hP hD hS hf ls hl
set_option maxHeartbeats 4000000 in
set_option maxRecDepth 100000 in
theorem k_Mo_canBe_b0 {p : Program} {l : Launch} {e : Env} {s : State} {m : MethodId} {args : Array Value} {below : List Frame} {meth : Method} {c : Code} {dC : Nat → ClassId} {dI : Nat → Nat → Nat} {cy : Nat → ClassId} {A : Nat → Prop} {o0 : Nat} {a0 : Nat → Nat} {N : Nat} {y : Int32 × zSt} (C0 : zCx p s m args meth c cX11_canBe 4 (some .boolean) RX11 (dC, dI) cy) (s0 : zSt) (v1 : Int32) (v2 : Int32) (hA : ∀ q, s.heap.size ≤ q → A q) {H : Heap} {locs : List Loc} (hP : va_P (dC, dI) vwCl (wd_Mo_canBe cy o0 a0 (zI s0) (zL s0) (zA s0 16) (zA s0 21) (zA s0 39) (zA s0 40) (zA s0 42) (zA s0 45) (zA s0 46) (zA s0 56)) H) (hD : va_D A (wd_Mo_canBe cy o0 a0 (zI s0) (zL s0) (zA s0 16) (zA s0 21) (zA s0 39) (zA s0 40) (zA s0 42) (zA s0 45) (zA s0 46) (zA s0 56))) (hS : va_S A s.heap H locs) (hf : Mo_canBe_b0 N s0 v1 v2 = some y) (ls : Array Slot) (hl : lv_has ls 4 [(0, .ref o0), (1, .int v1), (2, .int v2)]) : W p l e rm_Mo_canBe s m args below meth c H locs 0 0 (MQ below (zQi y.1 (dC, dI) cy (wd_Mo_canBe cy o0 a0 (zI y.2) (zL y.2) (zA y.2 16) (zA y.2 21) (zA y.2 39) (zA y.2 40) (zA y.2 42) (zA y.2 45) (zA y.2 46) (zA y.2 56)) A) args s 0 0 A) (F0 m 0 ls []) := by
  obtain ⟨hx, hb, hr, hml, hown, hT, hk, hK⟩ := id C0
  refine lv_aload_n hx hb dX11_canBe_0 rfl (lv_at hl 0 rfl) ?_
  obtain ⟨z1, hc2, hf⟩ := zbd_some hf
  refine zwv (wr := [(a0 16, .inl (cy 0, 11, .inl (zA s0 16))), (a0 21, .inl (cy 0, 9, .inl (zA s0 21))), (a0 39, .inl (cy 0, 40, .inl (zA s0 39))), (a0 40, .inl (cy 0, 40, .inl (zA s0 40))), (a0 42, .inl (cy 0, 40, .inl (zA s0 42))), (a0 45, .inl (cy 0, 40, .inl (zA s0 45))), (a0 46, .inl (cy 0, 40, .inl (zA s0 46)))]) (ws' := (wd_Mo_canBe cy o0 a0 (zI z1) (zL z1) (zA s0 16) (zA s0 21) (zA s0 39) (zA s0 40) (zA s0 42) (zA s0 45) (zA s0 46) (zA z1 56))) (zV (As := []) hx hb hml hown hT hl.1 (c_Mo_clearTried o0 a0 s0 hc2) zY_Mo_clearTried tb_1454 (zpRw hK hP hD [0, 8] (by decide) rfl 0 11 rfl rfl rfl rfl) rm_ok_Mo_canBe_Mo_clearTried rfl rfl (Nat.le_of_ble_eq_true rfl) dX11_canBe_1 ⟨Nat.zero_le _, Nat.zero_le _⟩) hP hD hS hA [0, 8] [1, 2, 3, 4, 5, 6, 7] [7, 0, 1, 2, 3, 4, 5, 6, 8] rfl rfl (by decide) (by decide) (by decide) rfl rfl (fun H locs hP hD hS => ?_)
  refine lv_iconst (v := 1) hx hb dX11_canBe_4 (by decide) ?_
  refine lv_istore_n (lv' := [(3, .int 1), (0, .ref o0), (1, .int v1), (2, .int v2)]) hx hb dX11_canBe_5 rfl hl (by decide) rfl (fun ls hl => ?_)
  exact k_Mo_canBe_h6 C0 v1 v2  hA N (zmg [16,21,39,40,42,45,46] z1 s0) 1 hP hD hS hf _ (lv_sub hl [1, 2, 3, 0] rfl)
set_option maxHeartbeats 4000000 in
set_option maxRecDepth 100000 in
theorem c_Mo_canBe {l : Launch} {dC : Nat → ClassId} {dI : Nat → Nat → Nat} {cy : Nat → ClassId} {sz : Nat} {N : Nat} (o0 : Nat) (a0 : Nat → Nat) (s0 : zSt) (v1 : Int32) (v2 : Int32) {y : Int32 × zSt} (hf : Mo_canBe N s0 v1 v2 = some y) : Met l yX11_canBe (.code yX11_canBe cX11_canBe 4 (some .boolean) :: zt) rm_Mo_canBe (va_Pc [.ref o0, .int v1, .int v2] (zPre (dC, dI) cy (wd_Mo_canBe cy o0 a0 (zI s0) (zL s0) (zA s0 16) (zA s0 21) (zA s0 39) (zA s0 40) (zA s0 42) (zA s0 45) (zA s0 46) (zA s0 56)) sz)) (zQi y.1 (dC, dI) cy (wd_Mo_canBe cy o0 a0 (zI y.2) (zL y.2) (zA y.2 16) (zA y.2 21) (zA y.2 39) (zA y.2 40) (zA y.2 42) (zA y.2 45) (zA y.2 46) (zA y.2 56)) (va_A (wd_Mo_canBe cy o0 a0 (zI s0) (zL s0) (zA s0 16) (zA s0 21) (zA s0 39) (zA s0 40) (zA s0 42) (zA s0 45) (zA s0 46) (zA s0 56)) sz)) 0 0 (va_A (wd_Mo_canBe cy o0 a0 (zI s0) (zL s0) (zA s0 16) (zA s0 21) (zA s0 39) (zA s0 40) (zA s0 42) (zA s0 45) (zA s0 46) (zA s0 56)) sz) :=
  zentW (Qw := fun A => (zQi y.1 (dC, dI) cy (wd_Mo_canBe cy o0 a0 (zI y.2) (zL y.2) (zA y.2 16) (zA y.2 21) (zA y.2 39) (zA y.2 40) (zA y.2 42) (zA y.2 45) (zA y.2 46) (zA y.2 56)) A)) (by decide +kernel) (Nat.le_of_ble_eq_true rfl) (fun p e s m below meth c A C0 hA hP hD hS ls hl => k_Mo_canBe_b0 C0 s0 v1 v2 hA hP hD hS hf ls hl)
def wd_Mo_first (cy : Nat → ClassId) (o0 : Nat) (a0 : Nat → Nat) (g0 : Nat → Int32) (h0 : Nat → Int64) (x0_16 : Nat → Int32) (x0_21 : Nat → Int32) (x0_39 : Nat → Int32) (x0_40 : Nat → Int32) (x0_42 : Nat → Int32) (x0_45 : Nat → Int32) (x0_46 : Nat → Int32) (x0_56 : Nat → Int32) : va_W := [(o0, .inr (11, fs_Mo a0 g0 h0)), (a0 16, .inl (cy 0, 11, .inl x0_16)), (a0 21, .inl (cy 0, 9, .inl x0_21)), (a0 39, .inl (cy 0, 40, .inl x0_39)), (a0 40, .inl (cy 0, 40, .inl x0_40)), (a0 42, .inl (cy 0, 40, .inl x0_42)), (a0 45, .inl (cy 0, 40, .inl x0_45)), (a0 46, .inl (cy 0, 40, .inl x0_46)), (a0 56, .inl (cy 0, 9, .inl x0_56))]
def rm_Mo_first : Room := { frames := 5, cells := 0, slots := 0, locals := 130 }
theorem rm_ok_Mo_first_Mo_canBe : rm_Mo_canBe.cells = 0 ∧ rm_Mo_canBe.slots = 0 ∧ rm_Mo_canBe.frames + 1 ≤ rm_Mo_first.frames ∧ 8 + (4 + 11) + rm_Mo_canBe.locals ≤ rm_Mo_first.locals := by decide
theorem rm_ok_Mo_first_Mo_counts : rm_Mo_counts.cells = 0 ∧ rm_Mo_counts.slots = 0 ∧ rm_Mo_counts.frames + 1 ≤ rm_Mo_first.frames ∧ 8 + (4 + 11) + rm_Mo_counts.locals ≤ rm_Mo_first.locals := by decide
set_option maxHeartbeats 4000000 in
set_option maxRecDepth 100000 in
theorem k_Mo_first_b43 {p : Program} {l : Launch} {e : Env} {s : State} {m : MethodId} {args : Array Value} {below : List Frame} {meth : Method} {c : Code} {dC : Nat → ClassId} {dI : Nat → Nat → Nat} {cy : Nat → ClassId} {A : Nat → Prop} {o0 : Nat} {a0 : Nat → Nat} {N : Nat} {kh14 : zSt → Int32 → Option (Int32 × zSt)} {y : Int32 × zSt} (C0 : zCx p s m args meth c cX11_first 3 (some .int) RX11 (dC, dI) cy) (s0 : zSt) (v1 : Int32) (v2 : Int32) (hk14 : ∀ (s0 : zSt) (v2 : Int32) {H : Heap} {locs : List Loc} (_ : va_P (dC, dI) vwCl (wd_Mo_first cy o0 a0 (zI s0) (zL s0) (zA s0 16) (zA s0 21) (zA s0 39) (zA s0 40) (zA s0 42) (zA s0 45) (zA s0 46) (zA s0 56)) H) (_ : va_D A (wd_Mo_first cy o0 a0 (zI s0) (zL s0) (zA s0 16) (zA s0 21) (zA s0 39) (zA s0 40) (zA s0 42) (zA s0 45) (zA s0 46) (zA s0 56))) (_ : va_S A s.heap H locs) (_ : kh14 s0 v2 = some y) (ls : Array Slot) (_ : lv_has ls 3 [(0, .ref o0), (1, .int v1), (2, .int v2)]), W p l e rm_Mo_first s m args below meth c H locs 0 0 (MQ below (zQi y.1 (dC, dI) cy (wd_Mo_first cy o0 a0 (zI y.2) (zL y.2) (zA y.2 16) (zA y.2 21) (zA y.2 39) (zA y.2 40) (zA y.2 42) (zA y.2 45) (zA y.2 46) (zA y.2 56)) A) args s 0 0 A) (F0 m 14 ls [])) (hA : ∀ q, s.heap.size ≤ q → A q) {H : Heap} {locs : List Loc} (hP : va_P (dC, dI) vwCl (wd_Mo_first cy o0 a0 (zI s0) (zL s0) (zA s0 16) (zA s0 21) (zA s0 39) (zA s0 40) (zA s0 42) (zA s0 45) (zA s0 46) (zA s0 56)) H) (hD : va_D A (wd_Mo_first cy o0 a0 (zI s0) (zL s0) (zA s0 16) (zA s0 21) (zA s0 39) (zA s0 40) (zA s0 42) (zA s0 45) (zA s0 46) (zA s0 56))) (hS : va_S A s.heap H locs) (hf : Mo_first_b43 N kh14 s0 v1 v2 = some y) (ls : Array Slot) (hl : lv_has ls 3 [(0, .ref o0), (1, .int v1), (2, .int v2)]) : W p l e rm_Mo_first s m args below meth c H locs 0 0 (MQ below (zQi y.1 (dC, dI) cy (wd_Mo_first cy o0 a0 (zI y.2) (zL y.2) (zA y.2 16) (zA y.2 21) (zA y.2 39) (zA y.2 40) (zA y.2 42) (zA y.2 45) (zA y.2 46) (zA y.2 56)) A) args s 0 0 A) (F0 m 43 ls []) := by
  obtain ⟨hx, hb, hr, hml, hown, hT, hk, hK⟩ := id C0
  refine lv_iinc (v := v2 + 1) (lv' := [(2, .int (v2 + 1)), (0, .ref o0), (1, .int v1)]) hx hb dX11_first_43 hl (k := 2) rfl rfl (by decide) rfl (fun ls hl => ?_)
  refine lv_goto (tgt := 14) hx hb dX11_first_46 (by decide) ?_
  exact hk14 s0 (v2 + 1) hP hD hS hf _ (lv_sub hl [1, 2, 0] rfl)
set_option maxHeartbeats 4000000 in
set_option maxRecDepth 100000 in
theorem k_Mo_first_b14 {p : Program} {l : Launch} {e : Env} {s : State} {m : MethodId} {args : Array Value} {below : List Frame} {meth : Method} {c : Code} {dC : Nat → ClassId} {dI : Nat → Nat → Nat} {cy : Nat → ClassId} {A : Nat → Prop} {o0 : Nat} {a0 : Nat → Nat} {N : Nat} {kh14 : zSt → Int32 → Option (Int32 × zSt)} {y : Int32 × zSt} (C0 : zCx p s m args meth c cX11_first 3 (some .int) RX11 (dC, dI) cy) (s0 : zSt) (v1 : Int32) (v2 : Int32) (hk14 : ∀ (s0 : zSt) (v2 : Int32) {H : Heap} {locs : List Loc} (_ : va_P (dC, dI) vwCl (wd_Mo_first cy o0 a0 (zI s0) (zL s0) (zA s0 16) (zA s0 21) (zA s0 39) (zA s0 40) (zA s0 42) (zA s0 45) (zA s0 46) (zA s0 56)) H) (_ : va_D A (wd_Mo_first cy o0 a0 (zI s0) (zL s0) (zA s0 16) (zA s0 21) (zA s0 39) (zA s0 40) (zA s0 42) (zA s0 45) (zA s0 46) (zA s0 56))) (_ : va_S A s.heap H locs) (_ : kh14 s0 v2 = some y) (ls : Array Slot) (_ : lv_has ls 3 [(0, .ref o0), (1, .int v1), (2, .int v2)]), W p l e rm_Mo_first s m args below meth c H locs 0 0 (MQ below (zQi y.1 (dC, dI) cy (wd_Mo_first cy o0 a0 (zI y.2) (zL y.2) (zA y.2 16) (zA y.2 21) (zA y.2 39) (zA y.2 40) (zA y.2 42) (zA y.2 45) (zA y.2 46) (zA y.2 56)) A) args s 0 0 A) (F0 m 14 ls [])) (hA : ∀ q, s.heap.size ≤ q → A q) {H : Heap} {locs : List Loc} (hP : va_P (dC, dI) vwCl (wd_Mo_first cy o0 a0 (zI s0) (zL s0) (zA s0 16) (zA s0 21) (zA s0 39) (zA s0 40) (zA s0 42) (zA s0 45) (zA s0 46) (zA s0 56)) H) (hD : va_D A (wd_Mo_first cy o0 a0 (zI s0) (zL s0) (zA s0 16) (zA s0 21) (zA s0 39) (zA s0 40) (zA s0 42) (zA s0 45) (zA s0 46) (zA s0 56))) (hS : va_S A s.heap H locs) (hf : Mo_first_b14 N kh14 s0 v1 v2 = some y) (ls : Array Slot) (hl : lv_has ls 3 [(0, .ref o0), (1, .int v1), (2, .int v2)]) : W p l e rm_Mo_first s m args below meth c H locs 0 0 (MQ below (zQi y.1 (dC, dI) cy (wd_Mo_first cy o0 a0 (zI y.2) (zL y.2) (zA y.2 16) (zA y.2 21) (zA y.2 39) (zA y.2 40) (zA y.2 42) (zA y.2 45) (zA y.2 46) (zA y.2 56)) A) args s 0 0 A) (F0 m 14 ls []) := by
  obtain ⟨hx, hb, hr, hml, hown, hT, hk, hK⟩ := id C0
  refine lv_iload_n hx hb dX11_first_14 rfl (lv_at hl 2 rfl) ?_
  refine lv_aload_n hx hb dX11_first_15 rfl (lv_at hl 0 rfl) ?_
  refine zget (v := .int (zI s0 47)) hx hb hown hT hK hP inX11 rfl smX11 0 rfl 47 (by decide) tb_1049 rfl dX11_first_16 ?_
  refine lv_icmp_ge (tgt := 49) hx hb dX11_first_19 (by decide) (fun hb_1 => ?_) (fun hb_1 => ?_)
  · have hf := zif_t hb_1 hf
    refine lv_iconst (v := (-1)) hx hb dX11_first_49 (by decide) ?_
    cases hf
    exact zewi hx hb hr hk hK hP hD hS dX11_first_50
  · have hf := zif_f hb_1 hf
    refine lv_aload_n hx hb dX11_first_22 rfl (lv_at hl 0 rfl) ?_
    refine lv_iload_n hx hb dX11_first_23 rfl (lv_at hl 2 rfl) ?_
    refine lv_iconst (v := 1) hx hb dX11_first_24 (by decide) ?_
    refine lv_iload_n hx hb dX11_first_25 rfl (lv_at hl 1 rfl) ?_
    obtain ⟨z2, hc3, hf⟩ := zbd_some hf
    refine zri (zV (As := [.int v2, .int 1, .int v1]) hx hb hml hown hT hl.1 (c_Mo_counts o0 a0 s0 v2 1 v1 hc3) zY_Mo_counts tb_1414 (zpR hK hP [0, 3, 6, 7] rfl 0 11 rfl rfl rfl) rm_ok_Mo_first_Mo_counts rfl rfl (Nat.le_of_ble_eq_true rfl) dX11_first_26 ⟨Nat.zero_le _, Nat.zero_le _⟩) ?_
    refine lv_if_eq (tgt := 43) hx hb dX11_first_29 (by decide) (fun hb_4 => ?_) (fun hb_4 => ?_)
    · have hf := zif_t hb_4 hf
      exact k_Mo_first_b43 C0 s0 v1 v2 hk14 hA hP hD hS hf _ (lv_sub hl [0, 1, 2] rfl)
    · have hf := zif_f hb_4 hf
      refine lv_aload_n hx hb dX11_first_32 rfl (lv_at hl 0 rfl) ?_
      refine lv_iload_n hx hb dX11_first_33 rfl (lv_at hl 1 rfl) ?_
      refine lv_iload_n hx hb dX11_first_34 rfl (lv_at hl 2 rfl) ?_
      obtain ⟨z5, hc6, hf⟩ := zbd_some hf
      refine zwi (wr := []) (ws' := (wd_Mo_first cy o0 a0 (zI z5.2) (zL z5.2) (zA z5.2 16) (zA z5.2 21) (zA z5.2 39) (zA z5.2 40) (zA z5.2 42) (zA z5.2 45) (zA z5.2 46) (zA z5.2 56))) (zV (As := [.int v1, .int v2]) hx hb hml hown hT hl.1 (c_Mo_canBe o0 a0 s0 v1 v2 hc6) zY_Mo_canBe tb_1482 (zpRw hK hP hD [0, 1, 2, 3, 4, 5, 6, 7, 8] (by decide) rfl 0 11 rfl rfl rfl rfl) rm_ok_Mo_first_Mo_canBe rfl rfl (Nat.le_of_ble_eq_true rfl) dX11_first_35 ⟨Nat.zero_le _, Nat.zero_le _⟩) hP hD hS hA [0, 1, 2, 3, 4, 5, 6, 7, 8] [] [0, 1, 2, 3, 4, 5, 6, 7, 8] rfl rfl (by decide) (by decide) (by decide) rfl rfl (fun H locs hP hD hS => ?_)
      refine lv_if_ne (tgt := 43) hx hb dX11_first_38 (by decide) (fun hb_7 => ?_) (fun hb_7 => ?_)
      · have hf := zif_f hb_7 hf
        exact k_Mo_first_b43 C0 z5.2 v1 v2 hk14 hA hP hD hS hf _ (lv_sub hl [0, 1, 2] rfl)
      · have hf := zif_t hb_7 hf
        refine lv_iload_n hx hb dX11_first_41 rfl (lv_at hl 2 rfl) ?_
        cases hf
        exact zewi hx hb hr hk hK hP hD hS dX11_first_42
set_option maxHeartbeats 4000000 in
set_option maxRecDepth 100000 in
theorem k_Mo_first_h14 {p : Program} {l : Launch} {e : Env} {s : State} {m : MethodId} {args : Array Value} {below : List Frame} {meth : Method} {c : Code} {dC : Nat → ClassId} {dI : Nat → Nat → Nat} {cy : Nat → ClassId} {A : Nat → Prop} {o0 : Nat} {a0 : Nat → Nat} {N : Nat} {y : Int32 × zSt} (C0 : zCx p s m args meth c cX11_first 3 (some .int) RX11 (dC, dI) cy) (v1 : Int32) (hA : ∀ q, s.heap.size ≤ q → A q) : ∀ (n : Nat) (s0 : zSt) (v2 : Int32) {H : Heap} {locs : List Loc} (hP : va_P (dC, dI) vwCl (wd_Mo_first cy o0 a0 (zI s0) (zL s0) (zA s0 16) (zA s0 21) (zA s0 39) (zA s0 40) (zA s0 42) (zA s0 45) (zA s0 46) (zA s0 56)) H) (hD : va_D A (wd_Mo_first cy o0 a0 (zI s0) (zL s0) (zA s0 16) (zA s0 21) (zA s0 39) (zA s0 40) (zA s0 42) (zA s0 45) (zA s0 46) (zA s0 56))) (hS : va_S A s.heap H locs) (hf : Mo_first_h14 N v1 n s0 v2 = some y) (ls : Array Slot) (hl : lv_has ls 3 [(0, .ref o0), (1, .int v1), (2, .int v2)]), W p l e rm_Mo_first s m args below meth c H locs 0 0 (MQ below (zQi y.1 (dC, dI) cy (wd_Mo_first cy o0 a0 (zI y.2) (zL y.2) (zA y.2 16) (zA y.2 21) (zA y.2 39) (zA y.2 40) (zA y.2 42) (zA y.2 45) (zA y.2 46) (zA y.2 56)) A) args s 0 0 A) (F0 m 14 ls []) := by
  intro n
  induction n with
  | zero => intro s0 v2 H locs hP hD hS hf; cases hf
  | succ n ih =>
    intro s0 v2 H locs hP hD hS hf ls hl
    have hf : Mo_first_b14 N (Mo_first_h14 N v1 n) s0 v1 v2 = some y := hf
    exact k_Mo_first_b14 C0 s0 v1 v2 (fun s0 v2 _ _ hP hD hS hf ls hl => ih s0 v2 hP hD hS hf ls hl) hA hP hD hS hf ls hl
set_option maxHeartbeats 4000000 in
set_option maxRecDepth 100000 in
theorem k_Mo_first_b0 {p : Program} {l : Launch} {e : Env} {s : State} {m : MethodId} {args : Array Value} {below : List Frame} {meth : Method} {c : Code} {dC : Nat → ClassId} {dI : Nat → Nat → Nat} {cy : Nat → ClassId} {A : Nat → Prop} {o0 : Nat} {a0 : Nat → Nat} {N : Nat} {y : Int32 × zSt} (C0 : zCx p s m args meth c cX11_first 3 (some .int) RX11 (dC, dI) cy) (s0 : zSt) (v1 : Int32) (hA : ∀ q, s.heap.size ≤ q → A q) {H : Heap} {locs : List Loc} (hP : va_P (dC, dI) vwCl (wd_Mo_first cy o0 a0 (zI s0) (zL s0) (zA s0 16) (zA s0 21) (zA s0 39) (zA s0 40) (zA s0 42) (zA s0 45) (zA s0 46) (zA s0 56)) H) (hD : va_D A (wd_Mo_first cy o0 a0 (zI s0) (zL s0) (zA s0 16) (zA s0 21) (zA s0 39) (zA s0 40) (zA s0 42) (zA s0 45) (zA s0 46) (zA s0 56))) (hS : va_S A s.heap H locs) (hf : Mo_first_b0 N s0 v1 = some y) (ls : Array Slot) (hl : lv_has ls 3 [(0, .ref o0), (1, .int v1)]) : W p l e rm_Mo_first s m args below meth c H locs 0 0 (MQ below (zQi y.1 (dC, dI) cy (wd_Mo_first cy o0 a0 (zI y.2) (zL y.2) (zA y.2 16) (zA y.2 21) (zA y.2 39) (zA y.2 40) (zA y.2 42) (zA y.2 45) (zA y.2 46) (zA y.2 56)) A) args s 0 0 A) (F0 m 0 ls []) := by
  obtain ⟨hx, hb, hr, hml, hown, hT, hk, hK⟩ := id C0
  refine lv_aload_n hx hb dX11_first_0 rfl (lv_at hl 0 rfl) ?_
  refine zget (v := .int (zI s0 30)) hx hb hown hT hK hP inX11 rfl smX11 0 rfl 30 (by decide) tb_1032 rfl dX11_first_1 ?_
  refine lv_bipush (v := 8) hx hb dX11_first_4 (by decide) ?_
  refine lv_icmp_le (tgt := 12) hx hb dX11_first_6 (by decide) (fun hb_1 => ?_) (fun hb_1 => ?_)
  · have hf := zif_t hb_1 hf
    refine lv_iconst (v := 0) hx hb dX11_first_12 (by decide) ?_
    refine lv_istore_n (lv' := [(2, .int 0), (0, .ref o0), (1, .int v1)]) hx hb dX11_first_13 rfl hl (by decide) rfl (fun ls hl => ?_)
    exact k_Mo_first_h14 C0 v1  hA N s0 0 hP hD hS hf _ (lv_sub hl [1, 2, 0] rfl)
  · have hf := zif_f hb_1 hf
    refine lv_bipush (v := (-2)) hx hb dX11_first_9 (by decide) ?_
    cases hf
    exact zewi hx hb hr hk hK hP hD hS dX11_first_11
set_option maxHeartbeats 4000000 in
set_option maxRecDepth 100000 in
theorem c_Mo_first {l : Launch} {dC : Nat → ClassId} {dI : Nat → Nat → Nat} {cy : Nat → ClassId} {sz : Nat} {N : Nat} (o0 : Nat) (a0 : Nat → Nat) (s0 : zSt) (v1 : Int32) {y : Int32 × zSt} (hf : Mo_first N s0 v1 = some y) : Met l yX11_first (.code yX11_first cX11_first 3 (some .int) :: zt) rm_Mo_first (va_Pc [.ref o0, .int v1] (zPre (dC, dI) cy (wd_Mo_first cy o0 a0 (zI s0) (zL s0) (zA s0 16) (zA s0 21) (zA s0 39) (zA s0 40) (zA s0 42) (zA s0 45) (zA s0 46) (zA s0 56)) sz)) (zQi y.1 (dC, dI) cy (wd_Mo_first cy o0 a0 (zI y.2) (zL y.2) (zA y.2 16) (zA y.2 21) (zA y.2 39) (zA y.2 40) (zA y.2 42) (zA y.2 45) (zA y.2 46) (zA y.2 56)) (va_A (wd_Mo_first cy o0 a0 (zI s0) (zL s0) (zA s0 16) (zA s0 21) (zA s0 39) (zA s0 40) (zA s0 42) (zA s0 45) (zA s0 46) (zA s0 56)) sz)) 0 0 (va_A (wd_Mo_first cy o0 a0 (zI s0) (zL s0) (zA s0 16) (zA s0 21) (zA s0 39) (zA s0 40) (zA s0 42) (zA s0 45) (zA s0 46) (zA s0 56)) sz) :=
  zentW (Qw := fun A => (zQi y.1 (dC, dI) cy (wd_Mo_first cy o0 a0 (zI y.2) (zL y.2) (zA y.2 16) (zA y.2 21) (zA y.2 39) (zA y.2 40) (zA y.2 42) (zA y.2 45) (zA y.2 46) (zA y.2 56)) A)) (by decide +kernel) (Nat.le_of_ble_eq_true rfl) (fun p e s m below meth c A C0 hA hP hD hS ls hl => k_Mo_first_b0 C0 s0 v1 hA hP hD hS hf ls hl)
def wd_Mo_areAlike (cy : Nat → ClassId) (o0 : Nat) (a0 : Nat → Nat) (g0 : Nat → Int32) (h0 : Nat → Int64) (x0_17 : Nat → Int32) (x0_21 : Nat → Int32) (x0_56 : Nat → Int32) (x0_59 : Nat → Int32) : va_W := [(o0, .inr (11, fs_Mo a0 g0 h0)), (a0 17, .inl (cy 0, 11, .inl x0_17)), (a0 21, .inl (cy 0, 9, .inl x0_21)), (a0 56, .inl (cy 0, 9, .inl x0_56)), (a0 59, .inl (cy 0, 12, .inl x0_59))]
def rm_Mo_areAlike : Room := { frames := 1, cells := 0, slots := 0, locals := 40 }
set_option maxHeartbeats 4000000 in
set_option maxRecDepth 100000 in
theorem k_Mo_areAlike_b105 {p : Program} {l : Launch} {e : Env} {s : State} {m : MethodId} {args : Array Value} {below : List Frame} {meth : Method} {c : Code} {dC : Nat → ClassId} {dI : Nat → Nat → Nat} {cy : Nat → ClassId} {A : Nat → Prop} {o0 : Nat} {a0 : Nat → Nat} {N : Nat} {kh79 : zSt → Int32 → Int32 → Option (Int32 × zSt)} {y : Int32 × zSt} (C0 : zCx p s m args meth c cX11_areAlike 5 (some .boolean) RX11 (dC, dI) cy) (s0 : zSt) (v4 : Int32) (t0 : Int32) (hk79 : ∀ (s0 : zSt) (v3 : Int32) (v4 : Int32) {H : Heap} {locs : List Loc} (_ : va_P (dC, dI) vwCl (wd_Mo_areAlike cy o0 a0 (zI s0) (zL s0) (zA s0 17) (zA s0 21) (zA s0 56) (zA s0 59)) H) (_ : va_D A (wd_Mo_areAlike cy o0 a0 (zI s0) (zL s0) (zA s0 17) (zA s0 21) (zA s0 56) (zA s0 59))) (_ : va_S A s.heap H locs) (_ : kh79 s0 v3 v4 = some y) (ls : Array Slot) (_ : lv_has ls 5 [(0, .ref o0), (3, .int v3), (4, .int v4)]), W p l e rm_Mo_areAlike s m args below meth c H locs 0 0 (MQ below (zQi y.1 (dC, dI) cy (wd_Mo_areAlike cy o0 a0 (zI y.2) (zL y.2) (zA y.2 17) (zA y.2 21) (zA y.2 56) (zA y.2 59)) A) args s 0 0 A) (F0 m 79 ls [])) (hA : ∀ q, s.heap.size ≤ q → A q) {H : Heap} {locs : List Loc} (hP : va_P (dC, dI) vwCl (wd_Mo_areAlike cy o0 a0 (zI s0) (zL s0) (zA s0 17) (zA s0 21) (zA s0 56) (zA s0 59)) H) (hD : va_D A (wd_Mo_areAlike cy o0 a0 (zI s0) (zL s0) (zA s0 17) (zA s0 21) (zA s0 56) (zA s0 59))) (hS : va_S A s.heap H locs) (hf : Mo_areAlike_b105 N kh79 s0 v4 t0 = some y) (ls : Array Slot) (hl : lv_has ls 5 [(0, .ref o0), (4, .int v4)]) : W p l e rm_Mo_areAlike s m args below meth c H locs 0 0 (MQ below (zQi y.1 (dC, dI) cy (wd_Mo_areAlike cy o0 a0 (zI y.2) (zL y.2) (zA y.2 17) (zA y.2 21) (zA y.2 56) (zA y.2 59)) A) args s 0 0 A) (F0 m 105 ls [.int t0]) := by
  obtain ⟨hx, hb, hr, hml, hown, hT, hk, hK⟩ := id C0
  refine lv_istore_n (lv' := [(3, .int t0), (0, .ref o0), (4, .int v4)]) hx hb dX11_areAlike_105 rfl hl (by decide) rfl (fun ls hl => ?_)
  refine lv_iinc (v := v4 + 1) (lv' := [(4, .int (v4 + 1)), (3, .int t0), (0, .ref o0)]) hx hb dX11_areAlike_106 hl (k := 2) rfl rfl (by decide) rfl (fun ls hl => ?_)
  refine lv_goto (tgt := 79) hx hb dX11_areAlike_109 (by decide) ?_
  exact hk79 s0 t0 (v4 + 1) hP hD hS hf _ (lv_sub hl [2, 1, 0] rfl)
set_option maxHeartbeats 4000000 in
set_option maxRecDepth 100000 in
theorem k_Mo_areAlike_b104 {p : Program} {l : Launch} {e : Env} {s : State} {m : MethodId} {args : Array Value} {below : List Frame} {meth : Method} {c : Code} {dC : Nat → ClassId} {dI : Nat → Nat → Nat} {cy : Nat → ClassId} {A : Nat → Prop} {o0 : Nat} {a0 : Nat → Nat} {N : Nat} {kh79 : zSt → Int32 → Int32 → Option (Int32 × zSt)} {y : Int32 × zSt} (C0 : zCx p s m args meth c cX11_areAlike 5 (some .boolean) RX11 (dC, dI) cy) (s0 : zSt) (v4 : Int32) (hk79 : ∀ (s0 : zSt) (v3 : Int32) (v4 : Int32) {H : Heap} {locs : List Loc} (_ : va_P (dC, dI) vwCl (wd_Mo_areAlike cy o0 a0 (zI s0) (zL s0) (zA s0 17) (zA s0 21) (zA s0 56) (zA s0 59)) H) (_ : va_D A (wd_Mo_areAlike cy o0 a0 (zI s0) (zL s0) (zA s0 17) (zA s0 21) (zA s0 56) (zA s0 59))) (_ : va_S A s.heap H locs) (_ : kh79 s0 v3 v4 = some y) (ls : Array Slot) (_ : lv_has ls 5 [(0, .ref o0), (3, .int v3), (4, .int v4)]), W p l e rm_Mo_areAlike s m args below meth c H locs 0 0 (MQ below (zQi y.1 (dC, dI) cy (wd_Mo_areAlike cy o0 a0 (zI y.2) (zL y.2) (zA y.2 17) (zA y.2 21) (zA y.2 56) (zA y.2 59)) A) args s 0 0 A) (F0 m 79 ls [])) (hA : ∀ q, s.heap.size ≤ q → A q) {H : Heap} {locs : List Loc} (hP : va_P (dC, dI) vwCl (wd_Mo_areAlike cy o0 a0 (zI s0) (zL s0) (zA s0 17) (zA s0 21) (zA s0 56) (zA s0 59)) H) (hD : va_D A (wd_Mo_areAlike cy o0 a0 (zI s0) (zL s0) (zA s0 17) (zA s0 21) (zA s0 56) (zA s0 59))) (hS : va_S A s.heap H locs) (hf : Mo_areAlike_b104 N kh79 s0 v4 = some y) (ls : Array Slot) (hl : lv_has ls 5 [(0, .ref o0), (4, .int v4)]) : W p l e rm_Mo_areAlike s m args below meth c H locs 0 0 (MQ below (zQi y.1 (dC, dI) cy (wd_Mo_areAlike cy o0 a0 (zI y.2) (zL y.2) (zA y.2 17) (zA y.2 21) (zA y.2 56) (zA y.2 59)) A) args s 0 0 A) (F0 m 104 ls []) := by
  obtain ⟨hx, hb, hr, hml, hown, hT, hk, hK⟩ := id C0
  refine lv_iconst (v := 0) hx hb dX11_areAlike_104 (by decide) ?_
  exact k_Mo_areAlike_b105 C0 s0 v4 0 hk79 hA hP hD hS hf _ (lv_sub hl [0, 1] rfl)
set_option maxHeartbeats 4000000 in
set_option maxRecDepth 100000 in
theorem k_Mo_areAlike_b79 {p : Program} {l : Launch} {e : Env} {s : State} {m : MethodId} {args : Array Value} {below : List Frame} {meth : Method} {c : Code} {dC : Nat → ClassId} {dI : Nat → Nat → Nat} {cy : Nat → ClassId} {A : Nat → Prop} {o0 : Nat} {a0 : Nat → Nat} {N : Nat} {kh79 : zSt → Int32 → Int32 → Option (Int32 × zSt)} {y : Int32 × zSt} (C0 : zCx p s m args meth c cX11_areAlike 5 (some .boolean) RX11 (dC, dI) cy) (s0 : zSt) (v3 : Int32) (v4 : Int32) (hk79 : ∀ (s0 : zSt) (v3 : Int32) (v4 : Int32) {H : Heap} {locs : List Loc} (_ : va_P (dC, dI) vwCl (wd_Mo_areAlike cy o0 a0 (zI s0) (zL s0) (zA s0 17) (zA s0 21) (zA s0 56) (zA s0 59)) H) (_ : va_D A (wd_Mo_areAlike cy o0 a0 (zI s0) (zL s0) (zA s0 17) (zA s0 21) (zA s0 56) (zA s0 59))) (_ : va_S A s.heap H locs) (_ : kh79 s0 v3 v4 = some y) (ls : Array Slot) (_ : lv_has ls 5 [(0, .ref o0), (3, .int v3), (4, .int v4)]), W p l e rm_Mo_areAlike s m args below meth c H locs 0 0 (MQ below (zQi y.1 (dC, dI) cy (wd_Mo_areAlike cy o0 a0 (zI y.2) (zL y.2) (zA y.2 17) (zA y.2 21) (zA y.2 56) (zA y.2 59)) A) args s 0 0 A) (F0 m 79 ls [])) (hA : ∀ q, s.heap.size ≤ q → A q) {H : Heap} {locs : List Loc} (hP : va_P (dC, dI) vwCl (wd_Mo_areAlike cy o0 a0 (zI s0) (zL s0) (zA s0 17) (zA s0 21) (zA s0 56) (zA s0 59)) H) (hD : va_D A (wd_Mo_areAlike cy o0 a0 (zI s0) (zL s0) (zA s0 17) (zA s0 21) (zA s0 56) (zA s0 59))) (hS : va_S A s.heap H locs) (hf : Mo_areAlike_b79 N kh79 s0 v3 v4 = some y) (ls : Array Slot) (hl : lv_has ls 5 [(0, .ref o0), (3, .int v3), (4, .int v4)]) : W p l e rm_Mo_areAlike s m args below meth c H locs 0 0 (MQ below (zQi y.1 (dC, dI) cy (wd_Mo_areAlike cy o0 a0 (zI y.2) (zL y.2) (zA y.2 17) (zA y.2 21) (zA y.2 56) (zA y.2 59)) A) args s 0 0 A) (F0 m 79 ls []) := by
  obtain ⟨hx, hb, hr, hml, hown, hT, hk, hK⟩ := id C0
  refine lv_iload hx hb dX11_areAlike_79 (lv_at hl 2 rfl) ?_
  refine lv_bipush (v := 12) hx hb dX11_areAlike_81 (by decide) ?_
  refine lv_icmp_ge (tgt := 112) hx hb dX11_areAlike_83 (by decide) (fun hb_1 => ?_) (fun hb_1 => ?_)
  · have hf := zif_t hb_1 hf
    refine lv_iload_n hx hb dX11_areAlike_112 rfl (lv_at hl 1 rfl) ?_
    obtain ⟨hq2, hf⟩ := zcb_some hf
    cases hf
    exact zewz hx hb hr hk hq2 hK hP hD hS dX11_areAlike_113
  · have hf := zif_f hb_1 hf
    refine lv_iload_n hx hb dX11_areAlike_86 rfl (lv_at hl 1 rfl) ?_
    refine lv_if_eq (tgt := 104) hx hb dX11_areAlike_87 (by decide) (fun hb_3 => ?_) (fun hb_3 => ?_)
    · have hf := zif_t hb_3 hf
      exact k_Mo_areAlike_b104 C0 s0 v4 hk79 hA hP hD hS hf _ (lv_sub hl [0, 2] rfl)
    · have hf := zif_f hb_3 hf
      refine lv_aload_n hx hb dX11_areAlike_90 rfl (lv_at hl 0 rfl) ?_
      refine zget (v := .ref (a0 59)) hx hb hown hT hK hP inX11 rfl smX11 0 rfl 59 (by decide) tb_1061 rfl dX11_areAlike_91 ?_
      refine lv_iload hx hb dX11_areAlike_94 (lv_at hl 2 rfl) ?_
      obtain ⟨hi4, hf⟩ := zck_some hf
      refine va_iald hx hb hK.1 hP 4 0 rfl rfl hi4 dX11_areAlike_96 ?_
      refine lv_if_ne (tgt := 104) hx hb dX11_areAlike_97 (by decide) (fun hb_5 => ?_) (fun hb_5 => ?_)
      · have hf := zif_f hb_5 hf
        exact k_Mo_areAlike_b104 C0 s0 v4 hk79 hA hP hD hS hf _ (lv_sub hl [0, 2] rfl)
      · have hf := zif_t hb_5 hf
        refine lv_iconst (v := 1) hx hb dX11_areAlike_100 (by decide) ?_
        refine lv_goto (tgt := 105) hx hb dX11_areAlike_101 (by decide) ?_
        exact k_Mo_areAlike_b105 C0 s0 v4 1 hk79 hA hP hD hS hf _ (lv_sub hl [0, 2] rfl)
set_option maxHeartbeats 4000000 in
set_option maxRecDepth 100000 in
theorem k_Mo_areAlike_h79 {p : Program} {l : Launch} {e : Env} {s : State} {m : MethodId} {args : Array Value} {below : List Frame} {meth : Method} {c : Code} {dC : Nat → ClassId} {dI : Nat → Nat → Nat} {cy : Nat → ClassId} {A : Nat → Prop} {o0 : Nat} {a0 : Nat → Nat} {N : Nat} {y : Int32 × zSt} (C0 : zCx p s m args meth c cX11_areAlike 5 (some .boolean) RX11 (dC, dI) cy) (hA : ∀ q, s.heap.size ≤ q → A q) : ∀ (n : Nat) (s0 : zSt) (v3 : Int32) (v4 : Int32) {H : Heap} {locs : List Loc} (hP : va_P (dC, dI) vwCl (wd_Mo_areAlike cy o0 a0 (zI s0) (zL s0) (zA s0 17) (zA s0 21) (zA s0 56) (zA s0 59)) H) (hD : va_D A (wd_Mo_areAlike cy o0 a0 (zI s0) (zL s0) (zA s0 17) (zA s0 21) (zA s0 56) (zA s0 59))) (hS : va_S A s.heap H locs) (hf : Mo_areAlike_h79 N n s0 v3 v4 = some y) (ls : Array Slot) (hl : lv_has ls 5 [(0, .ref o0), (3, .int v3), (4, .int v4)]), W p l e rm_Mo_areAlike s m args below meth c H locs 0 0 (MQ below (zQi y.1 (dC, dI) cy (wd_Mo_areAlike cy o0 a0 (zI y.2) (zL y.2) (zA y.2 17) (zA y.2 21) (zA y.2 56) (zA y.2 59)) A) args s 0 0 A) (F0 m 79 ls []) := by
  intro n
  induction n with
  | zero => intro s0 v3 v4 H locs hP hD hS hf; cases hf
  | succ n ih =>
    intro s0 v3 v4 H locs hP hD hS hf ls hl
    have hf : Mo_areAlike_b79 N (Mo_areAlike_h79 N n) s0 v3 v4 = some y := hf
    exact k_Mo_areAlike_b79 C0 s0 v3 v4 (fun s0 v3 v4 _ _ hP hD hS hf ls hl => ih s0 v3 v4 hP hD hS hf ls hl) hA hP hD hS hf ls hl
set_option maxHeartbeats 4000000 in
set_option maxRecDepth 100000 in
theorem k_Mo_areAlike_b23 {p : Program} {l : Launch} {e : Env} {s : State} {m : MethodId} {args : Array Value} {below : List Frame} {meth : Method} {c : Code} {dC : Nat → ClassId} {dI : Nat → Nat → Nat} {cy : Nat → ClassId} {A : Nat → Prop} {o0 : Nat} {a0 : Nat → Nat} {N : Nat} {kh23 : zSt → Int32 → Option (Int32 × zSt)} {y : Int32 × zSt} (C0 : zCx p s m args meth c cX11_areAlike 5 (some .boolean) RX11 (dC, dI) cy) (s0 : zSt) (v1 : Int32) (v2 : Int32) (v3 : Int32) (hk23 : ∀ (s0 : zSt) (v3 : Int32) {H : Heap} {locs : List Loc} (_ : va_P (dC, dI) vwCl (wd_Mo_areAlike cy o0 a0 (zI s0) (zL s0) (zA s0 17) (zA s0 21) (zA s0 56) (zA s0 59)) H) (_ : va_D A (wd_Mo_areAlike cy o0 a0 (zI s0) (zL s0) (zA s0 17) (zA s0 21) (zA s0 56) (zA s0 59))) (_ : va_S A s.heap H locs) (_ : kh23 s0 v3 = some y) (ls : Array Slot) (_ : lv_has ls 5 [(0, .ref o0), (1, .int v1), (2, .int v2), (3, .int v3)]), W p l e rm_Mo_areAlike s m args below meth c H locs 0 0 (MQ below (zQi y.1 (dC, dI) cy (wd_Mo_areAlike cy o0 a0 (zI y.2) (zL y.2) (zA y.2 17) (zA y.2 21) (zA y.2 56) (zA y.2 59)) A) args s 0 0 A) (F0 m 23 ls [])) (hA : ∀ q, s.heap.size ≤ q → A q) {H : Heap} {locs : List Loc} (hP : va_P (dC, dI) vwCl (wd_Mo_areAlike cy o0 a0 (zI s0) (zL s0) (zA s0 17) (zA s0 21) (zA s0 56) (zA s0 59)) H) (hD : va_D A (wd_Mo_areAlike cy o0 a0 (zI s0) (zL s0) (zA s0 17) (zA s0 21) (zA s0 56) (zA s0 59))) (hS : va_S A s.heap H locs) (hf : Mo_areAlike_b23 N kh23 s0 v1 v2 v3 = some y) (ls : Array Slot) (hl : lv_has ls 5 [(0, .ref o0), (1, .int v1), (2, .int v2), (3, .int v3)]) : W p l e rm_Mo_areAlike s m args below meth c H locs 0 0 (MQ below (zQi y.1 (dC, dI) cy (wd_Mo_areAlike cy o0 a0 (zI y.2) (zL y.2) (zA y.2 17) (zA y.2 21) (zA y.2 56) (zA y.2 59)) A) args s 0 0 A) (F0 m 23 ls []) := by
  obtain ⟨hx, hb, hr, hml, hown, hT, hk, hK⟩ := id C0
  refine lv_iload_n hx hb dX11_areAlike_23 rfl (lv_at hl 3 rfl) ?_
  refine lv_aload_n hx hb dX11_areAlike_24 rfl (lv_at hl 0 rfl) ?_
  refine zget (v := .int (zI s0 30)) hx hb hown hT hK hP inX11 rfl smX11 0 rfl 30 (by decide) tb_1032 rfl dX11_areAlike_25 ?_
  refine lv_icmp_ge (tgt := 74) hx hb dX11_areAlike_28 (by decide) (fun hb_1 => ?_) (fun hb_1 => ?_)
  · have hf := zif_t hb_1 hf
    refine lv_iconst (v := 1) hx hb dX11_areAlike_74 (by decide) ?_
    refine lv_istore_n (lv' := [(3, .int 1), (0, .ref o0), (1, .int v1), (2, .int v2)]) hx hb dX11_areAlike_75 rfl hl (by decide) rfl (fun ls hl => ?_)
    refine lv_iconst (v := 0) hx hb dX11_areAlike_76 (by decide) ?_
    refine lv_istore (lv' := [(4, .int 0), (3, .int 1), (0, .ref o0), (1, .int v1), (2, .int v2)]) hx hb dX11_areAlike_77 hl (by decide) rfl (fun ls hl => ?_)
    exact k_Mo_areAlike_h79 C0   hA N s0 1 0 hP hD hS hf _ (lv_sub hl [2, 1, 0] rfl)
  · have hf := zif_f hb_1 hf
    refine lv_aload_n hx hb dX11_areAlike_31 rfl (lv_at hl 0 rfl) ?_
    refine zget (v := .ref (a0 59)) hx hb hown hT hK hP inX11 rfl smX11 0 rfl 59 (by decide) tb_1061 rfl dX11_areAlike_32 ?_
    refine lv_aload_n hx hb dX11_areAlike_35 rfl (lv_at hl 0 rfl) ?_
    refine zget (v := .ref (a0 56)) hx hb hown hT hK hP inX11 rfl smX11 0 rfl 56 (by decide) tb_1058 rfl dX11_areAlike_36 ?_
    refine lv_iload_n hx hb dX11_areAlike_39 rfl (lv_at hl 3 rfl) ?_
    obtain ⟨hi2, hf⟩ := zck_some hf
    refine va_iald hx hb hK.1 hP 3 0 rfl rfl hi2 dX11_areAlike_40 ?_
    refine lv_dup2_11 hx hb dX11_areAlike_41 rfl rfl ?_
    obtain ⟨hi3, hf⟩ := zck_some hf
    refine va_iald hx hb hK.1 hP 4 0 rfl rfl hi3 dX11_areAlike_42 ?_
    refine lv_iload_n hx hb dX11_areAlike_43 rfl (lv_at hl 1 rfl) ?_
    refine lv_iload_n hx hb dX11_areAlike_44 rfl (lv_at hl 3 rfl) ?_
    refine lv_ishr hx hb dX11_areAlike_45 ?_
    refine lv_iconst (v := 1) hx hb dX11_areAlike_46 (by decide) ?_
    refine lv_iand hx hb dX11_areAlike_47 ?_
    refine lv_iload_n hx hb dX11_areAlike_48 rfl (lv_at hl 2 rfl) ?_
    refine lv_iload_n hx hb dX11_areAlike_49 rfl (lv_at hl 3 rfl) ?_
    refine lv_ishr hx hb dX11_areAlike_50 ?_
    refine lv_iconst (v := 1) hx hb dX11_areAlike_51 (by decide) ?_
    refine lv_iand hx hb dX11_areAlike_52 ?_
    refine lv_isub hx hb dX11_areAlike_53 ?_
    refine lv_aload_n hx hb dX11_areAlike_54 rfl (lv_at hl 0 rfl) ?_
    refine zget (v := .ref (a0 17)) hx hb hown hT hK hP inX11 rfl smX11 0 rfl 17 (by decide) tb_1019 rfl dX11_areAlike_55 ?_
    refine lv_aload_n hx hb dX11_areAlike_58 rfl (lv_at hl 0 rfl) ?_
    refine zget (v := .ref (a0 21)) hx hb hown hT hK hP inX11 rfl smX11 0 rfl 21 (by decide) tb_1023 rfl dX11_areAlike_59 ?_
    refine lv_iload_n hx hb dX11_areAlike_62 rfl (lv_at hl 3 rfl) ?_
    obtain ⟨hi4, hf⟩ := zck_some hf
    refine va_iald hx hb hK.1 hP 2 0 rfl rfl hi4 dX11_areAlike_63 ?_
    obtain ⟨hi5, hf⟩ := zck_some hf
    refine va_iald hx hb hK.1 hP 1 0 rfl rfl hi5 dX11_areAlike_64 ?_
    refine lv_imul hx hb dX11_areAlike_65 ?_
    refine lv_iadd hx hb dX11_areAlike_66 ?_
    obtain ⟨hi6, hf⟩ := zck_some hf
    refine zast (ws' := (wd_Mo_areAlike cy o0 a0 (zI s0) (zL s0) (zA s0 17) (zA s0 21) (zA s0 56) (upd (zA s0 59) (Int32.toNatClampNeg ((zA s0 56) (Int32.toNatClampNeg v3))) (((zA s0 59) (Int32.toNatClampNeg ((zA s0 56) (Int32.toNatClampNeg v3)))) + ((((v1 >>> (v3 &&& 31)) &&& 1) - ((v2 >>> (v3 &&& 31)) &&& 1)) * ((zA s0 17) (Int32.toNatClampNeg ((zA s0 21) (Int32.toNatClampNeg v3))))))))) hx hb hK hP hD hS 4 0 rfl rfl hi6 rfl dX11_areAlike_67 (fun H locs hP hD hS => ?_)
    refine lv_iinc (v := v3 + 1) (lv' := [(3, .int (v3 + 1)), (0, .ref o0), (1, .int v1), (2, .int v2)]) hx hb dX11_areAlike_68 hl (k := 3) rfl rfl (by decide) rfl (fun ls hl => ?_)
    refine lv_goto (tgt := 23) hx hb dX11_areAlike_71 (by decide) ?_
    exact hk23 (zsA s0 59 (upd (zA s0 59) (Int32.toNatClampNeg ((zA s0 56) (Int32.toNatClampNeg v3))) (((zA s0 59) (Int32.toNatClampNeg ((zA s0 56) (Int32.toNatClampNeg v3)))) + ((((v1 >>> (v3 &&& 31)) &&& 1) - ((v2 >>> (v3 &&& 31)) &&& 1)) * ((zA s0 17) (Int32.toNatClampNeg ((zA s0 21) (Int32.toNatClampNeg v3)))))))) (v3 + 1) hP hD hS hf _ (lv_sub hl [1, 2, 3, 0] rfl)
set_option maxHeartbeats 4000000 in
set_option maxRecDepth 100000 in
theorem k_Mo_areAlike_h23 {p : Program} {l : Launch} {e : Env} {s : State} {m : MethodId} {args : Array Value} {below : List Frame} {meth : Method} {c : Code} {dC : Nat → ClassId} {dI : Nat → Nat → Nat} {cy : Nat → ClassId} {A : Nat → Prop} {o0 : Nat} {a0 : Nat → Nat} {N : Nat} {y : Int32 × zSt} (C0 : zCx p s m args meth c cX11_areAlike 5 (some .boolean) RX11 (dC, dI) cy) (v1 : Int32) (v2 : Int32) (hA : ∀ q, s.heap.size ≤ q → A q) : ∀ (n : Nat) (s0 : zSt) (v3 : Int32) {H : Heap} {locs : List Loc} (hP : va_P (dC, dI) vwCl (wd_Mo_areAlike cy o0 a0 (zI s0) (zL s0) (zA s0 17) (zA s0 21) (zA s0 56) (zA s0 59)) H) (hD : va_D A (wd_Mo_areAlike cy o0 a0 (zI s0) (zL s0) (zA s0 17) (zA s0 21) (zA s0 56) (zA s0 59))) (hS : va_S A s.heap H locs) (hf : Mo_areAlike_h23 N v1 v2 n s0 v3 = some y) (ls : Array Slot) (hl : lv_has ls 5 [(0, .ref o0), (1, .int v1), (2, .int v2), (3, .int v3)]), W p l e rm_Mo_areAlike s m args below meth c H locs 0 0 (MQ below (zQi y.1 (dC, dI) cy (wd_Mo_areAlike cy o0 a0 (zI y.2) (zL y.2) (zA y.2 17) (zA y.2 21) (zA y.2 56) (zA y.2 59)) A) args s 0 0 A) (F0 m 23 ls []) := by
  intro n
  induction n with
  | zero => intro s0 v3 H locs hP hD hS hf; cases hf
  | succ n ih =>
    intro s0 v3 H locs hP hD hS hf ls hl
    have hf : Mo_areAlike_b23 N (Mo_areAlike_h23 N v1 v2 n) s0 v1 v2 v3 = some y := hf
    exact k_Mo_areAlike_b23 C0 s0 v1 v2 v3 (fun s0 v3 _ _ hP hD hS hf ls hl => ih s0 v3 hP hD hS hf ls hl) hA hP hD hS hf ls hl
set_option maxHeartbeats 4000000 in
set_option maxRecDepth 100000 in
theorem k_Mo_areAlike_b2 {p : Program} {l : Launch} {e : Env} {s : State} {m : MethodId} {args : Array Value} {below : List Frame} {meth : Method} {c : Code} {dC : Nat → ClassId} {dI : Nat → Nat → Nat} {cy : Nat → ClassId} {A : Nat → Prop} {o0 : Nat} {a0 : Nat → Nat} {N : Nat} {kh2 : zSt → Int32 → Option (Int32 × zSt)} {y : Int32 × zSt} (C0 : zCx p s m args meth c cX11_areAlike 5 (some .boolean) RX11 (dC, dI) cy) (s0 : zSt) (v1 : Int32) (v2 : Int32) (v3 : Int32) (hk2 : ∀ (s0 : zSt) (v3 : Int32) {H : Heap} {locs : List Loc} (_ : va_P (dC, dI) vwCl (wd_Mo_areAlike cy o0 a0 (zI s0) (zL s0) (zA s0 17) (zA s0 21) (zA s0 56) (zA s0 59)) H) (_ : va_D A (wd_Mo_areAlike cy o0 a0 (zI s0) (zL s0) (zA s0 17) (zA s0 21) (zA s0 56) (zA s0 59))) (_ : va_S A s.heap H locs) (_ : kh2 s0 v3 = some y) (ls : Array Slot) (_ : lv_has ls 5 [(0, .ref o0), (1, .int v1), (2, .int v2), (3, .int v3)]), W p l e rm_Mo_areAlike s m args below meth c H locs 0 0 (MQ below (zQi y.1 (dC, dI) cy (wd_Mo_areAlike cy o0 a0 (zI y.2) (zL y.2) (zA y.2 17) (zA y.2 21) (zA y.2 56) (zA y.2 59)) A) args s 0 0 A) (F0 m 2 ls [])) (hA : ∀ q, s.heap.size ≤ q → A q) {H : Heap} {locs : List Loc} (hP : va_P (dC, dI) vwCl (wd_Mo_areAlike cy o0 a0 (zI s0) (zL s0) (zA s0 17) (zA s0 21) (zA s0 56) (zA s0 59)) H) (hD : va_D A (wd_Mo_areAlike cy o0 a0 (zI s0) (zL s0) (zA s0 17) (zA s0 21) (zA s0 56) (zA s0 59))) (hS : va_S A s.heap H locs) (hf : Mo_areAlike_b2 N kh2 s0 v1 v2 v3 = some y) (ls : Array Slot) (hl : lv_has ls 5 [(0, .ref o0), (1, .int v1), (2, .int v2), (3, .int v3)]) : W p l e rm_Mo_areAlike s m args below meth c H locs 0 0 (MQ below (zQi y.1 (dC, dI) cy (wd_Mo_areAlike cy o0 a0 (zI y.2) (zL y.2) (zA y.2 17) (zA y.2 21) (zA y.2 56) (zA y.2 59)) A) args s 0 0 A) (F0 m 2 ls []) := by
  obtain ⟨hx, hb, hr, hml, hown, hT, hk, hK⟩ := id C0
  refine lv_iload_n hx hb dX11_areAlike_2 rfl (lv_at hl 3 rfl) ?_
  refine lv_bipush (v := 12) hx hb dX11_areAlike_3 (by decide) ?_
  refine lv_icmp_ge (tgt := 21) hx hb dX11_areAlike_5 (by decide) (fun hb_1 => ?_) (fun hb_1 => ?_)
  · have hf := zif_t hb_1 hf
    refine lv_iconst (v := 0) hx hb dX11_areAlike_21 (by decide) ?_
    refine lv_istore_n (lv' := [(3, .int 0), (0, .ref o0), (1, .int v1), (2, .int v2)]) hx hb dX11_areAlike_22 rfl hl (by decide) rfl (fun ls hl => ?_)
    exact k_Mo_areAlike_h23 C0 v1 v2  hA N s0 0 hP hD hS hf _ (lv_sub hl [1, 2, 3, 0] rfl)
  · have hf := zif_f hb_1 hf
    refine lv_aload_n hx hb dX11_areAlike_8 rfl (lv_at hl 0 rfl) ?_
    refine zget (v := .ref (a0 59)) hx hb hown hT hK hP inX11 rfl smX11 0 rfl 59 (by decide) tb_1061 rfl dX11_areAlike_9 ?_
    refine lv_iload_n hx hb dX11_areAlike_12 rfl (lv_at hl 3 rfl) ?_
    refine lv_iconst (v := 0) hx hb dX11_areAlike_13 (by decide) ?_
    obtain ⟨hi2, hf⟩ := zck_some hf
    refine zast (ws' := (wd_Mo_areAlike cy o0 a0 (zI s0) (zL s0) (zA s0 17) (zA s0 21) (zA s0 56) (upd (zA s0 59) (Int32.toNatClampNeg v3) 0))) hx hb hK hP hD hS 4 0 rfl rfl hi2 rfl dX11_areAlike_14 (fun H locs hP hD hS => ?_)
    refine lv_iinc (v := v3 + 1) (lv' := [(3, .int (v3 + 1)), (0, .ref o0), (1, .int v1), (2, .int v2)]) hx hb dX11_areAlike_15 hl (k := 3) rfl rfl (by decide) rfl (fun ls hl => ?_)
    refine lv_goto (tgt := 2) hx hb dX11_areAlike_18 (by decide) ?_
    exact hk2 (zsA s0 59 (upd (zA s0 59) (Int32.toNatClampNeg v3) 0)) (v3 + 1) hP hD hS hf _ (lv_sub hl [1, 2, 3, 0] rfl)
set_option maxHeartbeats 4000000 in
set_option maxRecDepth 100000 in
theorem k_Mo_areAlike_h2 {p : Program} {l : Launch} {e : Env} {s : State} {m : MethodId} {args : Array Value} {below : List Frame} {meth : Method} {c : Code} {dC : Nat → ClassId} {dI : Nat → Nat → Nat} {cy : Nat → ClassId} {A : Nat → Prop} {o0 : Nat} {a0 : Nat → Nat} {N : Nat} {y : Int32 × zSt} (C0 : zCx p s m args meth c cX11_areAlike 5 (some .boolean) RX11 (dC, dI) cy) (v1 : Int32) (v2 : Int32) (hA : ∀ q, s.heap.size ≤ q → A q) : ∀ (n : Nat) (s0 : zSt) (v3 : Int32) {H : Heap} {locs : List Loc} (hP : va_P (dC, dI) vwCl (wd_Mo_areAlike cy o0 a0 (zI s0) (zL s0) (zA s0 17) (zA s0 21) (zA s0 56) (zA s0 59)) H) (hD : va_D A (wd_Mo_areAlike cy o0 a0 (zI s0) (zL s0) (zA s0 17) (zA s0 21) (zA s0 56) (zA s0 59))) (hS : va_S A s.heap H locs) (hf : Mo_areAlike_h2 N v1 v2 n s0 v3 = some y) (ls : Array Slot) (hl : lv_has ls 5 [(0, .ref o0), (1, .int v1), (2, .int v2), (3, .int v3)]), W p l e rm_Mo_areAlike s m args below meth c H locs 0 0 (MQ below (zQi y.1 (dC, dI) cy (wd_Mo_areAlike cy o0 a0 (zI y.2) (zL y.2) (zA y.2 17) (zA y.2 21) (zA y.2 56) (zA y.2 59)) A) args s 0 0 A) (F0 m 2 ls []) := by
  intro n
  induction n with
  | zero => intro s0 v3 H locs hP hD hS hf; cases hf
  | succ n ih =>
    intro s0 v3 H locs hP hD hS hf ls hl
    have hf : Mo_areAlike_b2 N (Mo_areAlike_h2 N v1 v2 n) s0 v1 v2 v3 = some y := hf
    exact k_Mo_areAlike_b2 C0 s0 v1 v2 v3 (fun s0 v3 _ _ hP hD hS hf ls hl => ih s0 v3 hP hD hS hf ls hl) hA hP hD hS hf ls hl
set_option maxHeartbeats 4000000 in
set_option maxRecDepth 100000 in
theorem k_Mo_areAlike_b0 {p : Program} {l : Launch} {e : Env} {s : State} {m : MethodId} {args : Array Value} {below : List Frame} {meth : Method} {c : Code} {dC : Nat → ClassId} {dI : Nat → Nat → Nat} {cy : Nat → ClassId} {A : Nat → Prop} {o0 : Nat} {a0 : Nat → Nat} {N : Nat} {y : Int32 × zSt} (C0 : zCx p s m args meth c cX11_areAlike 5 (some .boolean) RX11 (dC, dI) cy) (s0 : zSt) (v1 : Int32) (v2 : Int32) (hA : ∀ q, s.heap.size ≤ q → A q) {H : Heap} {locs : List Loc} (hP : va_P (dC, dI) vwCl (wd_Mo_areAlike cy o0 a0 (zI s0) (zL s0) (zA s0 17) (zA s0 21) (zA s0 56) (zA s0 59)) H) (hD : va_D A (wd_Mo_areAlike cy o0 a0 (zI s0) (zL s0) (zA s0 17) (zA s0 21) (zA s0 56) (zA s0 59))) (hS : va_S A s.heap H locs) (hf : Mo_areAlike_b0 N s0 v1 v2 = some y) (ls : Array Slot) (hl : lv_has ls 5 [(0, .ref o0), (1, .int v1), (2, .int v2)]) : W p l e rm_Mo_areAlike s m args below meth c H locs 0 0 (MQ below (zQi y.1 (dC, dI) cy (wd_Mo_areAlike cy o0 a0 (zI y.2) (zL y.2) (zA y.2 17) (zA y.2 21) (zA y.2 56) (zA y.2 59)) A) args s 0 0 A) (F0 m 0 ls []) := by
  obtain ⟨hx, hb, hr, hml, hown, hT, hk, hK⟩ := id C0
  refine lv_iconst (v := 0) hx hb dX11_areAlike_0 (by decide) ?_
  refine lv_istore_n (lv' := [(3, .int 0), (0, .ref o0), (1, .int v1), (2, .int v2)]) hx hb dX11_areAlike_1 rfl hl (by decide) rfl (fun ls hl => ?_)
  exact k_Mo_areAlike_h2 C0 v1 v2  hA N s0 0 hP hD hS hf _ (lv_sub hl [1, 2, 3, 0] rfl)
set_option maxHeartbeats 4000000 in
set_option maxRecDepth 100000 in
theorem c_Mo_areAlike {l : Launch} {dC : Nat → ClassId} {dI : Nat → Nat → Nat} {cy : Nat → ClassId} {sz : Nat} {N : Nat} (o0 : Nat) (a0 : Nat → Nat) (s0 : zSt) (v1 : Int32) (v2 : Int32) {y : Int32 × zSt} (hf : Mo_areAlike N s0 v1 v2 = some y) : Met l yX11_areAlike (.code yX11_areAlike cX11_areAlike 5 (some .boolean) :: zt) rm_Mo_areAlike (va_Pc [.ref o0, .int v1, .int v2] (zPre (dC, dI) cy (wd_Mo_areAlike cy o0 a0 (zI s0) (zL s0) (zA s0 17) (zA s0 21) (zA s0 56) (zA s0 59)) sz)) (zQi y.1 (dC, dI) cy (wd_Mo_areAlike cy o0 a0 (zI y.2) (zL y.2) (zA y.2 17) (zA y.2 21) (zA y.2 56) (zA y.2 59)) (va_A (wd_Mo_areAlike cy o0 a0 (zI s0) (zL s0) (zA s0 17) (zA s0 21) (zA s0 56) (zA s0 59)) sz)) 0 0 (va_A (wd_Mo_areAlike cy o0 a0 (zI s0) (zL s0) (zA s0 17) (zA s0 21) (zA s0 56) (zA s0 59)) sz) :=
  zentW (Qw := fun A => (zQi y.1 (dC, dI) cy (wd_Mo_areAlike cy o0 a0 (zI y.2) (zL y.2) (zA y.2 17) (zA y.2 21) (zA y.2 56) (zA y.2 59)) A)) (by decide +kernel) (Nat.le_of_ble_eq_true rfl) (fun p e s m below meth c A C0 hA hP hD hS ls hl => k_Mo_areAlike_b0 C0 s0 v1 v2 hA hP hD hS hf ls hl)
def wd_Mo_ones (cy : Nat → ClassId) : va_W := []
def rm_Mo_ones : Room := { frames := 1, cells := 0, slots := 0, locals := 40 }
set_option maxHeartbeats 4000000 in
set_option maxRecDepth 100000 in
theorem k_Mo_ones_b4 {p : Program} {l : Launch} {e : Env} {s : State} {m : MethodId} {args : Array Value} {below : List Frame} {meth : Method} {c : Code} {dC : Nat → ClassId} {dI : Nat → Nat → Nat} {cy : Nat → ClassId} {N : Nat} {kh4 : Int32 → Int32 → Option (Int32)} {y : Int32} (C0 : zCx p s m args meth c cX11_ones 3 (some .int) RX11 (dC, dI) cy) (v0 : Int32) (v1 : Int32) (v2 : Int32) (hk4 : ∀ (v1 : Int32) (v2 : Int32) (_ : kh4 v1 v2 = some y) (ls : Array Slot) (_ : lv_has ls 3 [(0, .int v0), (1, .int v1), (2, .int v2)]), W p l e rm_Mo_ones s m args below meth c s.heap [] 0 0 (MQ below (zSi y) args s 0 0 (fun _ => False)) (F0 m 4 ls [])) (hP : va_P (dC, dI) vwCl (wd_Mo_ones cy) s.heap) (hf : Mo_ones_b4 N kh4 v0 v1 v2 = some y) (ls : Array Slot) (hl : lv_has ls 3 [(0, .int v0), (1, .int v1), (2, .int v2)]) : W p l e rm_Mo_ones s m args below meth c s.heap [] 0 0 (MQ below (zSi y) args s 0 0 (fun _ => False)) (F0 m 4 ls []) := by
  obtain ⟨hx, hb, hr, hml, hown, hT, hk, hK⟩ := id C0
  refine lv_iload_n hx hb dX11_ones_4 rfl (lv_at hl 2 rfl) ?_
  refine lv_bipush (v := 9) hx hb dX11_ones_5 (by decide) ?_
  refine lv_icmp_ge (tgt := 24) hx hb dX11_ones_7 (by decide) (fun hb_1 => ?_) (fun hb_1 => ?_)
  · have hf := zif_t hb_1 hf
    refine lv_iload_n hx hb dX11_ones_24 rfl (lv_at hl 1 rfl) ?_
    cases hf
    exact zeri hx hb hr hk dX11_ones_25
  · have hf := zif_f hb_1 hf
    refine lv_iload_n hx hb dX11_ones_10 rfl (lv_at hl 1 rfl) ?_
    refine lv_iload_n hx hb dX11_ones_11 rfl (lv_at hl 0 rfl) ?_
    refine lv_iload_n hx hb dX11_ones_12 rfl (lv_at hl 2 rfl) ?_
    refine lv_ishr hx hb dX11_ones_13 ?_
    refine lv_iconst (v := 1) hx hb dX11_ones_14 (by decide) ?_
    refine lv_iand hx hb dX11_ones_15 ?_
    refine lv_iadd hx hb dX11_ones_16 ?_
    refine lv_istore_n (lv' := [(1, .int (v1 + ((v0 >>> (v2 &&& 31)) &&& 1))), (0, .int v0), (2, .int v2)]) hx hb dX11_ones_17 rfl hl (by decide) rfl (fun ls hl => ?_)
    refine lv_iinc (v := v2 + 1) (lv' := [(2, .int (v2 + 1)), (1, .int (v1 + ((v0 >>> (v2 &&& 31)) &&& 1))), (0, .int v0)]) hx hb dX11_ones_18 hl (k := 2) rfl rfl (by decide) rfl (fun ls hl => ?_)
    refine lv_goto (tgt := 4) hx hb dX11_ones_21 (by decide) ?_
    exact hk4 (v1 + ((v0 >>> (v2 &&& 31)) &&& 1)) (v2 + 1) hf _ (lv_sub hl [2, 1, 0] rfl)
set_option maxHeartbeats 4000000 in
set_option maxRecDepth 100000 in
theorem k_Mo_ones_h4 {p : Program} {l : Launch} {e : Env} {s : State} {m : MethodId} {args : Array Value} {below : List Frame} {meth : Method} {c : Code} {dC : Nat → ClassId} {dI : Nat → Nat → Nat} {cy : Nat → ClassId} {N : Nat} {y : Int32} (C0 : zCx p s m args meth c cX11_ones 3 (some .int) RX11 (dC, dI) cy) (v0 : Int32) (hP : va_P (dC, dI) vwCl (wd_Mo_ones cy) s.heap) : ∀ (n : Nat) (v1 : Int32) (v2 : Int32) (hf : Mo_ones_h4 N v0 n v1 v2 = some y) (ls : Array Slot) (hl : lv_has ls 3 [(0, .int v0), (1, .int v1), (2, .int v2)]), W p l e rm_Mo_ones s m args below meth c s.heap [] 0 0 (MQ below (zSi y) args s 0 0 (fun _ => False)) (F0 m 4 ls []) := by
  intro n
  induction n with
  | zero => intro v1 v2 hf; cases hf
  | succ n ih =>
    intro v1 v2 hf ls hl
    have hf : Mo_ones_b4 N (Mo_ones_h4 N v0 n) v0 v1 v2 = some y := hf
    exact k_Mo_ones_b4 C0 v0 v1 v2 (fun v1 v2 hf ls hl => ih v1 v2 hf ls hl) hP hf ls hl
set_option maxHeartbeats 4000000 in
set_option maxRecDepth 100000 in
theorem k_Mo_ones_b0 {p : Program} {l : Launch} {e : Env} {s : State} {m : MethodId} {args : Array Value} {below : List Frame} {meth : Method} {c : Code} {dC : Nat → ClassId} {dI : Nat → Nat → Nat} {cy : Nat → ClassId} {N : Nat} {y : Int32} (C0 : zCx p s m args meth c cX11_ones 3 (some .int) RX11 (dC, dI) cy) (v0 : Int32) (hP : va_P (dC, dI) vwCl (wd_Mo_ones cy) s.heap) (hf : Mo_ones_b0 N v0 = some y) (ls : Array Slot) (hl : lv_has ls 3 [(0, .int v0)]) : W p l e rm_Mo_ones s m args below meth c s.heap [] 0 0 (MQ below (zSi y) args s 0 0 (fun _ => False)) (F0 m 0 ls []) := by
  obtain ⟨hx, hb, hr, hml, hown, hT, hk, hK⟩ := id C0
  refine lv_iconst (v := 0) hx hb dX11_ones_0 (by decide) ?_
  refine lv_istore_n (lv' := [(1, .int 0), (0, .int v0)]) hx hb dX11_ones_1 rfl hl (by decide) rfl (fun ls hl => ?_)
  refine lv_iconst (v := 0) hx hb dX11_ones_2 (by decide) ?_
  refine lv_istore_n (lv' := [(2, .int 0), (1, .int 0), (0, .int v0)]) hx hb dX11_ones_3 rfl hl (by decide) rfl (fun ls hl => ?_)
  exact k_Mo_ones_h4 C0 v0  hP N 0 0 hf _ (lv_sub hl [2, 1, 0] rfl)
set_option maxHeartbeats 4000000 in
set_option maxRecDepth 100000 in
theorem c_Mo_ones {l : Launch} {dC : Nat → ClassId} {dI : Nat → Nat → Nat} {cy : Nat → ClassId} {N : Nat} (v0 : Int32) {y : Int32} (hf : Mo_ones N v0 = some y) : Met l yX11_ones (.code yX11_ones cX11_ones 3 (some .int) :: zt) rm_Mo_ones (va_Pc [.int v0] (zRd (dC, dI) cy (wd_Mo_ones cy))) (zSi y) 0 0 (fun _ => False) :=
  zentR (by decide +kernel) (Nat.le_of_ble_eq_true rfl) (fun p e s m below meth c C0 hP ls hl => k_Mo_ones_b0 C0 v0 hP hf ls hl)
def wd_Mo_layFew (cy : Nat → ClassId) (o0 : Nat) (a0 : Nat → Nat) (g0 : Nat → Int32) (h0 : Nat → Int64) (x0_60 : Nat → Int32) : va_W := [(o0, .inr (11, fs_Mo a0 g0 h0)), (a0 60, .inl (cy 0, 64, .inl x0_60))]
def rm_Mo_layFew : Room := { frames := 2, cells := 0, slots := 0, locals := 62 }
theorem rm_ok_Mo_layFew_Mo_ones : rm_Mo_ones.cells = 0 ∧ rm_Mo_ones.slots = 0 ∧ rm_Mo_ones.frames + 1 ≤ rm_Mo_layFew.frames ∧ 8 + (3 + 11) + rm_Mo_ones.locals ≤ rm_Mo_layFew.locals := by decide
set_option maxHeartbeats 4000000 in
set_option maxRecDepth 100000 in
theorem k_Mo_layFew_b48 {p : Program} {l : Launch} {e : Env} {s : State} {m : MethodId} {args : Array Value} {below : List Frame} {meth : Method} {c : Code} {dC : Nat → ClassId} {dI : Nat → Nat → Nat} {cy : Nat → ClassId} {A : Nat → Prop} {o0 : Nat} {a0 : Nat → Nat} {N : Nat} {kh7 : zSt → Int32 → Option (zSt)} {y : zSt} (C0 : zCx p s m args meth c cX11_layFew 3 none RX11 (dC, dI) cy) (s0 : zSt) (v1 : Int32) (v2 : Int32) (hk7 : ∀ (s0 : zSt) (v2 : Int32) {H : Heap} {locs : List Loc} (_ : va_P (dC, dI) vwCl (wd_Mo_layFew cy o0 a0 (zI s0) (zL s0) (zA s0 60)) H) (_ : va_D A (wd_Mo_layFew cy o0 a0 (zI s0) (zL s0) (zA s0 60))) (_ : va_S A s.heap H locs) (_ : kh7 s0 v2 = some y) (ls : Array Slot) (_ : lv_has ls 3 [(0, .ref o0), (1, .int v1), (2, .int v2)]), W p l e rm_Mo_layFew s m args below meth c H locs 0 0 (MQ below (zQv (dC, dI) cy (wd_Mo_layFew cy o0 a0 (zI y) (zL y) (zA y 60)) A) args s 0 0 A) (F0 m 7 ls [])) (hA : ∀ q, s.heap.size ≤ q → A q) {H : Heap} {locs : List Loc} (hP : va_P (dC, dI) vwCl (wd_Mo_layFew cy o0 a0 (zI s0) (zL s0) (zA s0 60)) H) (hD : va_D A (wd_Mo_layFew cy o0 a0 (zI s0) (zL s0) (zA s0 60))) (hS : va_S A s.heap H locs) (hf : Mo_layFew_b48 N kh7 s0 v1 v2 = some y) (ls : Array Slot) (hl : lv_has ls 3 [(0, .ref o0), (1, .int v1), (2, .int v2)]) : W p l e rm_Mo_layFew s m args below meth c H locs 0 0 (MQ below (zQv (dC, dI) cy (wd_Mo_layFew cy o0 a0 (zI y) (zL y) (zA y 60)) A) args s 0 0 A) (F0 m 48 ls []) := by
  obtain ⟨hx, hb, hr, hml, hown, hT, hk, hK⟩ := id C0
  refine lv_iinc (v := v2 + 1) (lv' := [(2, .int (v2 + 1)), (0, .ref o0), (1, .int v1)]) hx hb dX11_layFew_48 hl (k := 2) rfl rfl (by decide) rfl (fun ls hl => ?_)
  refine lv_goto (tgt := 7) hx hb dX11_layFew_51 (by decide) ?_
  exact hk7 s0 (v2 + 1) hP hD hS hf _ (lv_sub hl [1, 2, 0] rfl)
set_option maxHeartbeats 4000000 in
set_option maxRecDepth 100000 in
theorem k_Mo_layFew_b7 {p : Program} {l : Launch} {e : Env} {s : State} {m : MethodId} {args : Array Value} {below : List Frame} {meth : Method} {c : Code} {dC : Nat → ClassId} {dI : Nat → Nat → Nat} {cy : Nat → ClassId} {A : Nat → Prop} {o0 : Nat} {a0 : Nat → Nat} {N : Nat} {kh7 : zSt → Int32 → Option (zSt)} {y : zSt} (C0 : zCx p s m args meth c cX11_layFew 3 none RX11 (dC, dI) cy) (s0 : zSt) (v1 : Int32) (v2 : Int32) (hk7 : ∀ (s0 : zSt) (v2 : Int32) {H : Heap} {locs : List Loc} (_ : va_P (dC, dI) vwCl (wd_Mo_layFew cy o0 a0 (zI s0) (zL s0) (zA s0 60)) H) (_ : va_D A (wd_Mo_layFew cy o0 a0 (zI s0) (zL s0) (zA s0 60))) (_ : va_S A s.heap H locs) (_ : kh7 s0 v2 = some y) (ls : Array Slot) (_ : lv_has ls 3 [(0, .ref o0), (1, .int v1), (2, .int v2)]), W p l e rm_Mo_layFew s m args below meth c H locs 0 0 (MQ below (zQv (dC, dI) cy (wd_Mo_layFew cy o0 a0 (zI y) (zL y) (zA y 60)) A) args s 0 0 A) (F0 m 7 ls [])) (hA : ∀ q, s.heap.size ≤ q → A q) {H : Heap} {locs : List Loc} (hP : va_P (dC, dI) vwCl (wd_Mo_layFew cy o0 a0 (zI s0) (zL s0) (zA s0 60)) H) (hD : va_D A (wd_Mo_layFew cy o0 a0 (zI s0) (zL s0) (zA s0 60))) (hS : va_S A s.heap H locs) (hf : Mo_layFew_b7 N kh7 s0 v1 v2 = some y) (ls : Array Slot) (hl : lv_has ls 3 [(0, .ref o0), (1, .int v1), (2, .int v2)]) : W p l e rm_Mo_layFew s m args below meth c H locs 0 0 (MQ below (zQv (dC, dI) cy (wd_Mo_layFew cy o0 a0 (zI y) (zL y) (zA y 60)) A) args s 0 0 A) (F0 m 7 ls []) := by
  obtain ⟨hx, hb, hr, hml, hown, hT, hk, hK⟩ := id C0
  refine lv_iload_n hx hb dX11_layFew_7 rfl (lv_at hl 2 rfl) ?_
  refine lv_iconst (v := 1) hx hb dX11_layFew_8 (by decide) ?_
  refine lv_aload_n hx hb dX11_layFew_9 rfl (lv_at hl 0 rfl) ?_
  refine zget (v := .int (zI s0 30)) hx hb hown hT hK hP inX11 rfl smX11 0 rfl 30 (by decide) tb_1032 rfl dX11_layFew_10 ?_
  refine lv_ishl hx hb dX11_layFew_13 ?_
  refine lv_icmp_ge (tgt := 54) hx hb dX11_layFew_14 (by decide) (fun hb_1 => ?_) (fun hb_1 => ?_)
  · have hf := zif_t hb_1 hf
    cases hf
    exact zewv hx hb hr hk hK hP hD hS dX11_layFew_54
  · have hf := zif_f hb_1 hf
    refine lv_iload_n hx hb dX11_layFew_17 rfl (lv_at hl 2 rfl) ?_
    obtain ⟨z2, hc3, hf⟩ := zbd_some hf
    refine zri (zS (As := [.int v2]) hx hb hml hown hT hl.1 (c_Mo_ones v2 hc3) zY_Mo_ones tb_1494 (zpS hK hP [] rfl) rm_ok_Mo_layFew_Mo_ones rfl rfl (Nat.le_of_ble_eq_true rfl) dX11_layFew_18 ⟨Nat.zero_le _, Nat.zero_le _⟩) ?_
    refine lv_iload_n hx hb dX11_layFew_21 rfl (lv_at hl 1 rfl) ?_
    refine lv_icmp_le (tgt := 28) hx hb dX11_layFew_22 (by decide) (fun hb_4 => ?_) (fun hb_4 => ?_)
    · have hf := zif_t hb_4 hf
      refine lv_aload_n hx hb dX11_layFew_28 rfl (lv_at hl 0 rfl) ?_
      refine zget (v := .ref (a0 60)) hx hb hown hT hK hP inX11 rfl smX11 0 rfl 60 (by decide) tb_1062 rfl dX11_layFew_29 ?_
      refine lv_aload_n hx hb dX11_layFew_32 rfl (lv_at hl 0 rfl) ?_
      refine zget (v := .int (zI s0 61)) hx hb hown hT hK hP inX11 rfl smX11 0 rfl 61 (by decide) tb_1063 rfl dX11_layFew_33 ?_
      refine lv_iload_n hx hb dX11_layFew_36 rfl (lv_at hl 2 rfl) ?_
      obtain ⟨hi5, hf⟩ := zck_some hf
      refine zast (ws' := (wd_Mo_layFew cy o0 a0 (zI s0) (zL s0) (upd (zA s0 60) (Int32.toNatClampNeg (zI s0 61)) v2))) hx hb hK hP hD hS 1 0 rfl rfl hi5 rfl dX11_layFew_37 (fun H locs hP hD hS => ?_)
      refine lv_aload_n hx hb dX11_layFew_38 rfl (lv_at hl 0 rfl) ?_
      refine lv_dup hx hb dX11_layFew_39 rfl ?_
      refine zget (v := .int (zI s0 61)) hx hb hown hT hK hP inX11 rfl smX11 0 rfl 61 (by decide) tb_1063 rfl dX11_layFew_40 ?_
      refine lv_iconst (v := 1) hx hb dX11_layFew_43 (by decide) ?_
      refine lv_iadd hx hb dX11_layFew_44 ?_
      refine zput (fs' := fs_Mo a0 (upd (zI s0) 61 ((zI s0 61) + 1)) (zL s0)) (ws' := (wd_Mo_layFew cy o0 a0 (upd (zI s0) 61 ((zI s0 61) + 1)) (zL s0) (upd (zA s0 60) (Int32.toNatClampNeg (zI s0 61)) v2))) hx hb hown hT hK hP hD hS inX11 rfl smX11 tyX11_ok nmX11 0 rfl 61 (by decide) tb_1063 rfl rfl rfl (Nat.le_of_ble_eq_true rfl) rfl rfl dX11_layFew_45 (fun H locs hP hD hS => ?_)
      exact k_Mo_layFew_b48 C0 (zpI (zsA s0 60 (upd (zA s0 60) (Int32.toNatClampNeg (zI s0 61)) v2)) 61 ((zI s0 61) + 1)) v1 v2 hk7 hA hP hD hS hf _ (lv_sub hl [0, 1, 2] rfl)
    · have hf := zif_f hb_4 hf
      refine lv_goto (tgt := 48) hx hb dX11_layFew_25 (by decide) ?_
      exact k_Mo_layFew_b48 C0 s0 v1 v2 hk7 hA hP hD hS hf _ (lv_sub hl [0, 1, 2] rfl)
set_option maxHeartbeats 4000000 in
set_option maxRecDepth 100000 in
theorem k_Mo_layFew_h7 {p : Program} {l : Launch} {e : Env} {s : State} {m : MethodId} {args : Array Value} {below : List Frame} {meth : Method} {c : Code} {dC : Nat → ClassId} {dI : Nat → Nat → Nat} {cy : Nat → ClassId} {A : Nat → Prop} {o0 : Nat} {a0 : Nat → Nat} {N : Nat} {y : zSt} (C0 : zCx p s m args meth c cX11_layFew 3 none RX11 (dC, dI) cy) (v1 : Int32) (hA : ∀ q, s.heap.size ≤ q → A q) : ∀ (n : Nat) (s0 : zSt) (v2 : Int32) {H : Heap} {locs : List Loc} (hP : va_P (dC, dI) vwCl (wd_Mo_layFew cy o0 a0 (zI s0) (zL s0) (zA s0 60)) H) (hD : va_D A (wd_Mo_layFew cy o0 a0 (zI s0) (zL s0) (zA s0 60))) (hS : va_S A s.heap H locs) (hf : Mo_layFew_h7 N v1 n s0 v2 = some y) (ls : Array Slot) (hl : lv_has ls 3 [(0, .ref o0), (1, .int v1), (2, .int v2)]), W p l e rm_Mo_layFew s m args below meth c H locs 0 0 (MQ below (zQv (dC, dI) cy (wd_Mo_layFew cy o0 a0 (zI y) (zL y) (zA y 60)) A) args s 0 0 A) (F0 m 7 ls []) := by
  intro n
  induction n with
  | zero => intro s0 v2 H locs hP hD hS hf; cases hf
  | succ n ih =>
    intro s0 v2 H locs hP hD hS hf ls hl
    have hf : Mo_layFew_b7 N (Mo_layFew_h7 N v1 n) s0 v1 v2 = some y := hf
    exact k_Mo_layFew_b7 C0 s0 v1 v2 (fun s0 v2 _ _ hP hD hS hf ls hl => ih s0 v2 hP hD hS hf ls hl) hA hP hD hS hf ls hl
set_option maxHeartbeats 4000000 in
set_option maxRecDepth 100000 in
theorem k_Mo_layFew_b0 {p : Program} {l : Launch} {e : Env} {s : State} {m : MethodId} {args : Array Value} {below : List Frame} {meth : Method} {c : Code} {dC : Nat → ClassId} {dI : Nat → Nat → Nat} {cy : Nat → ClassId} {A : Nat → Prop} {o0 : Nat} {a0 : Nat → Nat} {N : Nat} {y : zSt} (C0 : zCx p s m args meth c cX11_layFew 3 none RX11 (dC, dI) cy) (s0 : zSt) (v1 : Int32) (hA : ∀ q, s.heap.size ≤ q → A q) {H : Heap} {locs : List Loc} (hP : va_P (dC, dI) vwCl (wd_Mo_layFew cy o0 a0 (zI s0) (zL s0) (zA s0 60)) H) (hD : va_D A (wd_Mo_layFew cy o0 a0 (zI s0) (zL s0) (zA s0 60))) (hS : va_S A s.heap H locs) (hf : Mo_layFew_b0 N s0 v1 = some y) (ls : Array Slot) (hl : lv_has ls 3 [(0, .ref o0), (1, .int v1)]) : W p l e rm_Mo_layFew s m args below meth c H locs 0 0 (MQ below (zQv (dC, dI) cy (wd_Mo_layFew cy o0 a0 (zI y) (zL y) (zA y 60)) A) args s 0 0 A) (F0 m 0 ls []) := by
  obtain ⟨hx, hb, hr, hml, hown, hT, hk, hK⟩ := id C0
  refine lv_aload_n hx hb dX11_layFew_0 rfl (lv_at hl 0 rfl) ?_
  refine lv_iconst (v := 0) hx hb dX11_layFew_1 (by decide) ?_
  refine zput (fs' := fs_Mo a0 (upd (zI s0) 61 0) (zL s0)) (ws' := (wd_Mo_layFew cy o0 a0 (upd (zI s0) 61 0) (zL s0) (zA s0 60))) hx hb hown hT hK hP hD hS inX11 rfl smX11 tyX11_ok nmX11 0 rfl 61 (by decide) tb_1063 rfl rfl rfl (Nat.le_of_ble_eq_true rfl) rfl rfl dX11_layFew_2 (fun H locs hP hD hS => ?_)
  refine lv_iconst (v := 0) hx hb dX11_layFew_5 (by decide) ?_
  refine lv_istore_n (lv' := [(2, .int 0), (0, .ref o0), (1, .int v1)]) hx hb dX11_layFew_6 rfl hl (by decide) rfl (fun ls hl => ?_)
  exact k_Mo_layFew_h7 C0 v1  hA N (zpI s0 61 0) 0 hP hD hS hf _ (lv_sub hl [1, 2, 0] rfl)
set_option maxHeartbeats 4000000 in
set_option maxRecDepth 100000 in
theorem c_Mo_layFew {l : Launch} {dC : Nat → ClassId} {dI : Nat → Nat → Nat} {cy : Nat → ClassId} {sz : Nat} {N : Nat} (o0 : Nat) (a0 : Nat → Nat) (s0 : zSt) (v1 : Int32) {y : zSt} (hf : Mo_layFew N s0 v1 = some y) : Met l yX11_layFew (.code yX11_layFew cX11_layFew 3 none :: zt) rm_Mo_layFew (va_Pc [.ref o0, .int v1] (zPre (dC, dI) cy (wd_Mo_layFew cy o0 a0 (zI s0) (zL s0) (zA s0 60)) sz)) (zQv (dC, dI) cy (wd_Mo_layFew cy o0 a0 (zI y) (zL y) (zA y 60)) (va_A (wd_Mo_layFew cy o0 a0 (zI s0) (zL s0) (zA s0 60)) sz)) 0 0 (va_A (wd_Mo_layFew cy o0 a0 (zI s0) (zL s0) (zA s0 60)) sz) :=
  zentW (Qw := fun A => (zQv (dC, dI) cy (wd_Mo_layFew cy o0 a0 (zI y) (zL y) (zA y 60)) A)) (by decide +kernel) (Nat.le_of_ble_eq_true rfl) (fun p e s m below meth c A C0 hA hP hD hS ls hl => k_Mo_layFew_b0 C0 s0 v1 hA hP hD hS hf ls hl)
def wd_Mo_areKnown (cy : Nat → ClassId) (o0 : Nat) (a0 : Nat → Nat) (g0 : Nat → Int32) (h0 : Nat → Int64) (x0_17 : Nat → Int32) (x0_21 : Nat → Int32) (x0_56 : Nat → Int32) (x0_59 : Nat → Int32) (x0_60 : Nat → Int32) : va_W := [(o0, .inr (11, fs_Mo a0 g0 h0)), (a0 17, .inl (cy 0, 11, .inl x0_17)), (a0 21, .inl (cy 0, 9, .inl x0_21)), (a0 56, .inl (cy 0, 9, .inl x0_56)), (a0 59, .inl (cy 0, 12, .inl x0_59)), (a0 60, .inl (cy 0, 64, .inl x0_60))]
def rm_Mo_areKnown : Room := { frames := 2, cells := 0, slots := 0, locals := 64 }
theorem rm_ok_Mo_areKnown_Mo_areAlike : rm_Mo_areAlike.cells = 0 ∧ rm_Mo_areAlike.slots = 0 ∧ rm_Mo_areAlike.frames + 1 ≤ rm_Mo_areKnown.frames ∧ 8 + (5 + 11) + rm_Mo_areAlike.locals ≤ rm_Mo_areKnown.locals := by decide
set_option maxHeartbeats 4000000 in
set_option maxRecDepth 100000 in
theorem k_Mo_areKnown_b12 {p : Program} {l : Launch} {e : Env} {s : State} {m : MethodId} {args : Array Value} {below : List Frame} {meth : Method} {c : Code} {dC : Nat → ClassId} {dI : Nat → Nat → Nat} {cy : Nat → ClassId} {A : Nat → Prop} {o0 : Nat} {a0 : Nat → Nat} {N : Nat} {kh2 : zSt → Int32 → Option (Int32 × zSt)} {kh12 : zSt → Int32 → Option (Int32 × zSt)} {y : Int32 × zSt} (C0 : zCx p s m args meth c cX11_areKnown 3 (some .boolean) RX11 (dC, dI) cy) (s0 : zSt) (v1 : Int32) (v2 : Int32) (hk2 : ∀ (s0 : zSt) (v1 : Int32) {H : Heap} {locs : List Loc} (_ : va_P (dC, dI) vwCl (wd_Mo_areKnown cy o0 a0 (zI s0) (zL s0) (zA s0 17) (zA s0 21) (zA s0 56) (zA s0 59) (zA s0 60)) H) (_ : va_D A (wd_Mo_areKnown cy o0 a0 (zI s0) (zL s0) (zA s0 17) (zA s0 21) (zA s0 56) (zA s0 59) (zA s0 60))) (_ : va_S A s.heap H locs) (_ : kh2 s0 v1 = some y) (ls : Array Slot) (_ : lv_has ls 3 [(0, .ref o0), (1, .int v1)]), W p l e rm_Mo_areKnown s m args below meth c H locs 0 0 (MQ below (zQi y.1 (dC, dI) cy (wd_Mo_areKnown cy o0 a0 (zI y.2) (zL y.2) (zA y.2 17) (zA y.2 21) (zA y.2 56) (zA y.2 59) (zA y.2 60)) A) args s 0 0 A) (F0 m 2 ls [])) (hk12 : ∀ (s0 : zSt) (v2 : Int32) {H : Heap} {locs : List Loc} (_ : va_P (dC, dI) vwCl (wd_Mo_areKnown cy o0 a0 (zI s0) (zL s0) (zA s0 17) (zA s0 21) (zA s0 56) (zA s0 59) (zA s0 60)) H) (_ : va_D A (wd_Mo_areKnown cy o0 a0 (zI s0) (zL s0) (zA s0 17) (zA s0 21) (zA s0 56) (zA s0 59) (zA s0 60))) (_ : va_S A s.heap H locs) (_ : kh12 s0 v2 = some y) (ls : Array Slot) (_ : lv_has ls 3 [(0, .ref o0), (1, .int v1), (2, .int v2)]), W p l e rm_Mo_areKnown s m args below meth c H locs 0 0 (MQ below (zQi y.1 (dC, dI) cy (wd_Mo_areKnown cy o0 a0 (zI y.2) (zL y.2) (zA y.2 17) (zA y.2 21) (zA y.2 56) (zA y.2 59) (zA y.2 60)) A) args s 0 0 A) (F0 m 12 ls [])) (hA : ∀ q, s.heap.size ≤ q → A q) {H : Heap} {locs : List Loc} (hP : va_P (dC, dI) vwCl (wd_Mo_areKnown cy o0 a0 (zI s0) (zL s0) (zA s0 17) (zA s0 21) (zA s0 56) (zA s0 59) (zA s0 60)) H) (hD : va_D A (wd_Mo_areKnown cy o0 a0 (zI s0) (zL s0) (zA s0 17) (zA s0 21) (zA s0 56) (zA s0 59) (zA s0 60))) (hS : va_S A s.heap H locs) (hf : Mo_areKnown_b12 N kh2 kh12 s0 v1 v2 = some y) (ls : Array Slot) (hl : lv_has ls 3 [(0, .ref o0), (1, .int v1), (2, .int v2)]) : W p l e rm_Mo_areKnown s m args below meth c H locs 0 0 (MQ below (zQi y.1 (dC, dI) cy (wd_Mo_areKnown cy o0 a0 (zI y.2) (zL y.2) (zA y.2 17) (zA y.2 21) (zA y.2 56) (zA y.2 59) (zA y.2 60)) A) args s 0 0 A) (F0 m 12 ls []) := by
  obtain ⟨hx, hb, hr, hml, hown, hT, hk, hK⟩ := id C0
  refine lv_iload_n hx hb dX11_areKnown_12 rfl (lv_at hl 2 rfl) ?_
  refine lv_iload_n hx hb dX11_areKnown_13 rfl (lv_at hl 1 rfl) ?_
  refine lv_icmp_ge (tgt := 44) hx hb dX11_areKnown_14 (by decide) (fun hb_1 => ?_) (fun hb_1 => ?_)
  · have hf := zif_t hb_1 hf
    refine lv_iinc (v := v1 + 1) (lv' := [(1, .int (v1 + 1)), (0, .ref o0), (2, .int v2)]) hx hb dX11_areKnown_44 hl (k := 1) rfl rfl (by decide) rfl (fun ls hl => ?_)
    refine lv_goto (tgt := 2) hx hb dX11_areKnown_47 (by decide) ?_
    exact hk2 s0 (v1 + 1) hP hD hS hf _ (lv_sub hl [1, 0] rfl)
  · have hf := zif_f hb_1 hf
    refine lv_aload_n hx hb dX11_areKnown_17 rfl (lv_at hl 0 rfl) ?_
    refine lv_aload_n hx hb dX11_areKnown_18 rfl (lv_at hl 0 rfl) ?_
    refine zget (v := .ref (a0 60)) hx hb hown hT hK hP inX11 rfl smX11 0 rfl 60 (by decide) tb_1062 rfl dX11_areKnown_19 ?_
    refine lv_iload_n hx hb dX11_areKnown_22 rfl (lv_at hl 1 rfl) ?_
    obtain ⟨hi2, hf⟩ := zck_some hf
    refine va_iald hx hb hK.1 hP 5 0 rfl rfl hi2 dX11_areKnown_23 ?_
    refine lv_aload_n hx hb dX11_areKnown_24 rfl (lv_at hl 0 rfl) ?_
    refine zget (v := .ref (a0 60)) hx hb hown hT hK hP inX11 rfl smX11 0 rfl 60 (by decide) tb_1062 rfl dX11_areKnown_25 ?_
    refine lv_iload_n hx hb dX11_areKnown_28 rfl (lv_at hl 2 rfl) ?_
    obtain ⟨hi3, hf⟩ := zck_some hf
    refine va_iald hx hb hK.1 hP 5 0 rfl rfl hi3 dX11_areKnown_29 ?_
    obtain ⟨z4, hc5, hf⟩ := zbd_some hf
    refine zwi (wr := [(a0 60, .inl (cy 0, 64, .inl (zA s0 60)))]) (ws' := (wd_Mo_areKnown cy o0 a0 (zI z4.2) (zL z4.2) (zA z4.2 17) (zA z4.2 21) (zA z4.2 56) (zA z4.2 59) (zA s0 60))) (zV (As := [.int ((zA s0 60) (Int32.toNatClampNeg v1)), .int ((zA s0 60) (Int32.toNatClampNeg v2))]) hx hb hml hown hT hl.1 (c_Mo_areAlike o0 a0 s0 ((zA s0 60) (Int32.toNatClampNeg v1)) ((zA s0 60) (Int32.toNatClampNeg v2)) hc5) zY_Mo_areAlike tb_1505 (zpRw hK hP hD [0, 1, 2, 3, 4] (by decide) rfl 0 11 rfl rfl rfl rfl) rm_ok_Mo_areKnown_Mo_areAlike rfl rfl (Nat.le_of_ble_eq_true rfl) dX11_areKnown_30 ⟨Nat.zero_le _, Nat.zero_le _⟩) hP hD hS hA [0, 1, 2, 3, 4] [5] [1, 2, 3, 4, 5, 0] rfl rfl (by decide) (by decide) (by decide) rfl rfl (fun H locs hP hD hS => ?_)
    refine lv_if_eq (tgt := 38) hx hb dX11_areKnown_33 (by decide) (fun hb_6 => ?_) (fun hb_6 => ?_)
    · have hf := zif_t hb_6 hf
      refine lv_iinc (v := v2 + 1) (lv' := [(2, .int (v2 + 1)), (0, .ref o0), (1, .int v1)]) hx hb dX11_areKnown_38 hl (k := 2) rfl rfl (by decide) rfl (fun ls hl => ?_)
      refine lv_goto (tgt := 12) hx hb dX11_areKnown_41 (by decide) ?_
      exact hk12 (zmg [60] z4.2 s0) (v2 + 1) hP hD hS hf _ (lv_sub hl [1, 2, 0] rfl)
    · have hf := zif_f hb_6 hf
      refine lv_iconst (v := 0) hx hb dX11_areKnown_36 (by decide) ?_
      cases hf
      exact zewz hx hb hr hk (Or.inl rfl) hK hP hD hS dX11_areKnown_37
set_option maxHeartbeats 4000000 in
set_option maxRecDepth 100000 in
theorem k_Mo_areKnown_h12 {p : Program} {l : Launch} {e : Env} {s : State} {m : MethodId} {args : Array Value} {below : List Frame} {meth : Method} {c : Code} {dC : Nat → ClassId} {dI : Nat → Nat → Nat} {cy : Nat → ClassId} {A : Nat → Prop} {o0 : Nat} {a0 : Nat → Nat} {N : Nat} {kh2 : zSt → Int32 → Option (Int32 × zSt)} {y : Int32 × zSt} (C0 : zCx p s m args meth c cX11_areKnown 3 (some .boolean) RX11 (dC, dI) cy) (v1 : Int32) (hk2 : ∀ (s0 : zSt) (v1 : Int32) {H : Heap} {locs : List Loc} (_ : va_P (dC, dI) vwCl (wd_Mo_areKnown cy o0 a0 (zI s0) (zL s0) (zA s0 17) (zA s0 21) (zA s0 56) (zA s0 59) (zA s0 60)) H) (_ : va_D A (wd_Mo_areKnown cy o0 a0 (zI s0) (zL s0) (zA s0 17) (zA s0 21) (zA s0 56) (zA s0 59) (zA s0 60))) (_ : va_S A s.heap H locs) (_ : kh2 s0 v1 = some y) (ls : Array Slot) (_ : lv_has ls 3 [(0, .ref o0), (1, .int v1)]), W p l e rm_Mo_areKnown s m args below meth c H locs 0 0 (MQ below (zQi y.1 (dC, dI) cy (wd_Mo_areKnown cy o0 a0 (zI y.2) (zL y.2) (zA y.2 17) (zA y.2 21) (zA y.2 56) (zA y.2 59) (zA y.2 60)) A) args s 0 0 A) (F0 m 2 ls [])) (hA : ∀ q, s.heap.size ≤ q → A q) : ∀ (n : Nat) (s0 : zSt) (v2 : Int32) {H : Heap} {locs : List Loc} (hP : va_P (dC, dI) vwCl (wd_Mo_areKnown cy o0 a0 (zI s0) (zL s0) (zA s0 17) (zA s0 21) (zA s0 56) (zA s0 59) (zA s0 60)) H) (hD : va_D A (wd_Mo_areKnown cy o0 a0 (zI s0) (zL s0) (zA s0 17) (zA s0 21) (zA s0 56) (zA s0 59) (zA s0 60))) (hS : va_S A s.heap H locs) (hf : Mo_areKnown_h12 N kh2 v1 n s0 v2 = some y) (ls : Array Slot) (hl : lv_has ls 3 [(0, .ref o0), (1, .int v1), (2, .int v2)]), W p l e rm_Mo_areKnown s m args below meth c H locs 0 0 (MQ below (zQi y.1 (dC, dI) cy (wd_Mo_areKnown cy o0 a0 (zI y.2) (zL y.2) (zA y.2 17) (zA y.2 21) (zA y.2 56) (zA y.2 59) (zA y.2 60)) A) args s 0 0 A) (F0 m 12 ls []) := by
  intro n
  induction n with
  | zero => intro s0 v2 H locs hP hD hS hf; cases hf
  | succ n ih =>
    intro s0 v2 H locs hP hD hS hf ls hl
    have hf : Mo_areKnown_b12 N kh2 (Mo_areKnown_h12 N kh2 v1 n) s0 v1 v2 = some y := hf
    exact k_Mo_areKnown_b12 C0 s0 v1 v2 hk2 (fun s0 v2 _ _ hP hD hS hf ls hl => ih s0 v2 hP hD hS hf ls hl) hA hP hD hS hf ls hl
set_option maxHeartbeats 4000000 in
set_option maxRecDepth 100000 in
theorem k_Mo_areKnown_b2 {p : Program} {l : Launch} {e : Env} {s : State} {m : MethodId} {args : Array Value} {below : List Frame} {meth : Method} {c : Code} {dC : Nat → ClassId} {dI : Nat → Nat → Nat} {cy : Nat → ClassId} {A : Nat → Prop} {o0 : Nat} {a0 : Nat → Nat} {N : Nat} {kh2 : zSt → Int32 → Option (Int32 × zSt)} {y : Int32 × zSt} (C0 : zCx p s m args meth c cX11_areKnown 3 (some .boolean) RX11 (dC, dI) cy) (s0 : zSt) (v1 : Int32) (hk2 : ∀ (s0 : zSt) (v1 : Int32) {H : Heap} {locs : List Loc} (_ : va_P (dC, dI) vwCl (wd_Mo_areKnown cy o0 a0 (zI s0) (zL s0) (zA s0 17) (zA s0 21) (zA s0 56) (zA s0 59) (zA s0 60)) H) (_ : va_D A (wd_Mo_areKnown cy o0 a0 (zI s0) (zL s0) (zA s0 17) (zA s0 21) (zA s0 56) (zA s0 59) (zA s0 60))) (_ : va_S A s.heap H locs) (_ : kh2 s0 v1 = some y) (ls : Array Slot) (_ : lv_has ls 3 [(0, .ref o0), (1, .int v1)]), W p l e rm_Mo_areKnown s m args below meth c H locs 0 0 (MQ below (zQi y.1 (dC, dI) cy (wd_Mo_areKnown cy o0 a0 (zI y.2) (zL y.2) (zA y.2 17) (zA y.2 21) (zA y.2 56) (zA y.2 59) (zA y.2 60)) A) args s 0 0 A) (F0 m 2 ls [])) (hA : ∀ q, s.heap.size ≤ q → A q) {H : Heap} {locs : List Loc} (hP : va_P (dC, dI) vwCl (wd_Mo_areKnown cy o0 a0 (zI s0) (zL s0) (zA s0 17) (zA s0 21) (zA s0 56) (zA s0 59) (zA s0 60)) H) (hD : va_D A (wd_Mo_areKnown cy o0 a0 (zI s0) (zL s0) (zA s0 17) (zA s0 21) (zA s0 56) (zA s0 59) (zA s0 60))) (hS : va_S A s.heap H locs) (hf : Mo_areKnown_b2 N kh2 s0 v1 = some y) (ls : Array Slot) (hl : lv_has ls 3 [(0, .ref o0), (1, .int v1)]) : W p l e rm_Mo_areKnown s m args below meth c H locs 0 0 (MQ below (zQi y.1 (dC, dI) cy (wd_Mo_areKnown cy o0 a0 (zI y.2) (zL y.2) (zA y.2 17) (zA y.2 21) (zA y.2 56) (zA y.2 59) (zA y.2 60)) A) args s 0 0 A) (F0 m 2 ls []) := by
  obtain ⟨hx, hb, hr, hml, hown, hT, hk, hK⟩ := id C0
  refine lv_iload_n hx hb dX11_areKnown_2 rfl (lv_at hl 1 rfl) ?_
  refine lv_aload_n hx hb dX11_areKnown_3 rfl (lv_at hl 0 rfl) ?_
  refine zget (v := .int (zI s0 61)) hx hb hown hT hK hP inX11 rfl smX11 0 rfl 61 (by decide) tb_1063 rfl dX11_areKnown_4 ?_
  refine lv_icmp_ge (tgt := 50) hx hb dX11_areKnown_7 (by decide) (fun hb_1 => ?_) (fun hb_1 => ?_)
  · have hf := zif_t hb_1 hf
    refine lv_iconst (v := 1) hx hb dX11_areKnown_50 (by decide) ?_
    cases hf
    exact zewz hx hb hr hk (Or.inr rfl) hK hP hD hS dX11_areKnown_51
  · have hf := zif_f hb_1 hf
    refine lv_iconst (v := 0) hx hb dX11_areKnown_10 (by decide) ?_
    refine lv_istore_n (lv' := [(2, .int 0), (0, .ref o0), (1, .int v1)]) hx hb dX11_areKnown_11 rfl hl (by decide) rfl (fun ls hl => ?_)
    exact k_Mo_areKnown_h12 C0 v1 hk2 hA N s0 0 hP hD hS hf _ (lv_sub hl [1, 2, 0] rfl)
set_option maxHeartbeats 4000000 in
set_option maxRecDepth 100000 in
theorem k_Mo_areKnown_h2 {p : Program} {l : Launch} {e : Env} {s : State} {m : MethodId} {args : Array Value} {below : List Frame} {meth : Method} {c : Code} {dC : Nat → ClassId} {dI : Nat → Nat → Nat} {cy : Nat → ClassId} {A : Nat → Prop} {o0 : Nat} {a0 : Nat → Nat} {N : Nat} {y : Int32 × zSt} (C0 : zCx p s m args meth c cX11_areKnown 3 (some .boolean) RX11 (dC, dI) cy) (hA : ∀ q, s.heap.size ≤ q → A q) : ∀ (n : Nat) (s0 : zSt) (v1 : Int32) {H : Heap} {locs : List Loc} (hP : va_P (dC, dI) vwCl (wd_Mo_areKnown cy o0 a0 (zI s0) (zL s0) (zA s0 17) (zA s0 21) (zA s0 56) (zA s0 59) (zA s0 60)) H) (hD : va_D A (wd_Mo_areKnown cy o0 a0 (zI s0) (zL s0) (zA s0 17) (zA s0 21) (zA s0 56) (zA s0 59) (zA s0 60))) (hS : va_S A s.heap H locs) (hf : Mo_areKnown_h2 N n s0 v1 = some y) (ls : Array Slot) (hl : lv_has ls 3 [(0, .ref o0), (1, .int v1)]), W p l e rm_Mo_areKnown s m args below meth c H locs 0 0 (MQ below (zQi y.1 (dC, dI) cy (wd_Mo_areKnown cy o0 a0 (zI y.2) (zL y.2) (zA y.2 17) (zA y.2 21) (zA y.2 56) (zA y.2 59) (zA y.2 60)) A) args s 0 0 A) (F0 m 2 ls []) := by
  intro n
  induction n with
  | zero => intro s0 v1 H locs hP hD hS hf; cases hf
  | succ n ih =>
    intro s0 v1 H locs hP hD hS hf ls hl
    have hf : Mo_areKnown_b2 N (Mo_areKnown_h2 N n) s0 v1 = some y := hf
    exact k_Mo_areKnown_b2 C0 s0 v1 (fun s0 v1 _ _ hP hD hS hf ls hl => ih s0 v1 hP hD hS hf ls hl) hA hP hD hS hf ls hl
set_option maxHeartbeats 4000000 in
set_option maxRecDepth 100000 in
theorem k_Mo_areKnown_b0 {p : Program} {l : Launch} {e : Env} {s : State} {m : MethodId} {args : Array Value} {below : List Frame} {meth : Method} {c : Code} {dC : Nat → ClassId} {dI : Nat → Nat → Nat} {cy : Nat → ClassId} {A : Nat → Prop} {o0 : Nat} {a0 : Nat → Nat} {N : Nat} {y : Int32 × zSt} (C0 : zCx p s m args meth c cX11_areKnown 3 (some .boolean) RX11 (dC, dI) cy) (s0 : zSt) (hA : ∀ q, s.heap.size ≤ q → A q) {H : Heap} {locs : List Loc} (hP : va_P (dC, dI) vwCl (wd_Mo_areKnown cy o0 a0 (zI s0) (zL s0) (zA s0 17) (zA s0 21) (zA s0 56) (zA s0 59) (zA s0 60)) H) (hD : va_D A (wd_Mo_areKnown cy o0 a0 (zI s0) (zL s0) (zA s0 17) (zA s0 21) (zA s0 56) (zA s0 59) (zA s0 60))) (hS : va_S A s.heap H locs) (hf : Mo_areKnown_b0 N s0 = some y) (ls : Array Slot) (hl : lv_has ls 3 [(0, .ref o0)]) : W p l e rm_Mo_areKnown s m args below meth c H locs 0 0 (MQ below (zQi y.1 (dC, dI) cy (wd_Mo_areKnown cy o0 a0 (zI y.2) (zL y.2) (zA y.2 17) (zA y.2 21) (zA y.2 56) (zA y.2 59) (zA y.2 60)) A) args s 0 0 A) (F0 m 0 ls []) := by
  obtain ⟨hx, hb, hr, hml, hown, hT, hk, hK⟩ := id C0
  refine lv_iconst (v := 0) hx hb dX11_areKnown_0 (by decide) ?_
  refine lv_istore_n (lv' := [(1, .int 0), (0, .ref o0)]) hx hb dX11_areKnown_1 rfl hl (by decide) rfl (fun ls hl => ?_)
  exact k_Mo_areKnown_h2 C0   hA N s0 0 hP hD hS hf _ (lv_sub hl [1, 0] rfl)
set_option maxHeartbeats 4000000 in
set_option maxRecDepth 100000 in
theorem c_Mo_areKnown {l : Launch} {dC : Nat → ClassId} {dI : Nat → Nat → Nat} {cy : Nat → ClassId} {sz : Nat} {N : Nat} (o0 : Nat) (a0 : Nat → Nat) (s0 : zSt) {y : Int32 × zSt} (hf : Mo_areKnown N s0 = some y) : Met l yX11_areKnown (.code yX11_areKnown cX11_areKnown 3 (some .boolean) :: zt) rm_Mo_areKnown (va_Pc [.ref o0] (zPre (dC, dI) cy (wd_Mo_areKnown cy o0 a0 (zI s0) (zL s0) (zA s0 17) (zA s0 21) (zA s0 56) (zA s0 59) (zA s0 60)) sz)) (zQi y.1 (dC, dI) cy (wd_Mo_areKnown cy o0 a0 (zI y.2) (zL y.2) (zA y.2 17) (zA y.2 21) (zA y.2 56) (zA y.2 59) (zA y.2 60)) (va_A (wd_Mo_areKnown cy o0 a0 (zI s0) (zL s0) (zA s0 17) (zA s0 21) (zA s0 56) (zA s0 59) (zA s0 60)) sz)) 0 0 (va_A (wd_Mo_areKnown cy o0 a0 (zI s0) (zL s0) (zA s0 17) (zA s0 21) (zA s0 56) (zA s0 59) (zA s0 60)) sz) :=
  zentW (Qw := fun A => (zQi y.1 (dC, dI) cy (wd_Mo_areKnown cy o0 a0 (zI y.2) (zL y.2) (zA y.2 17) (zA y.2 21) (zA y.2 56) (zA y.2 59) (zA y.2 60)) A)) (by decide +kernel) (Nat.le_of_ble_eq_true rfl) (fun p e s m below meth c A C0 hA hP hD hS ls hl => k_Mo_areKnown_b0 C0 s0 hA hP hD hS hf ls hl)
def wd_Mo_greatest (cy : Nat → ClassId) (o0 : Nat) (a0 : Nat → Nat) (g0 : Nat → Int32) (h0 : Nat → Int64) (x0_56 : Nat → Int32) : va_W := [(o0, .inr (11, fs_Mo a0 g0 h0)), (a0 56, .inl (cy 0, 9, .inl x0_56))]
def rm_Mo_greatest : Room := { frames := 1, cells := 0, slots := 0, locals := 40 }
set_option maxHeartbeats 4000000 in
set_option maxRecDepth 100000 in
theorem k_Mo_greatest_b29 {p : Program} {l : Launch} {e : Env} {s : State} {m : MethodId} {args : Array Value} {below : List Frame} {meth : Method} {c : Code} {dC : Nat → ClassId} {dI : Nat → Nat → Nat} {cy : Nat → ClassId} {o0 : Nat} {a0 : Nat → Nat} {N : Nat} {kh4 : Int32 → Int32 → Option (Int32)} {y : Int32} (C0 : zCx p s m args meth c cX11_greatest 4 (some .int) RX11 (dC, dI) cy) (s0 : zSt) (v1 : Int32) (v3 : Int32) (t0 : Int32) (hk4 : ∀ (v2 : Int32) (v3 : Int32) (_ : kh4 v2 v3 = some y) (ls : Array Slot) (_ : lv_has ls 4 [(0, .ref o0), (1, .int v1), (2, .int v2), (3, .int v3)]), W p l e rm_Mo_greatest s m args below meth c s.heap [] 0 0 (MQ below (zSi y) args s 0 0 (fun _ => False)) (F0 m 4 ls [])) (hP : va_P (dC, dI) vwCl (wd_Mo_greatest cy o0 a0 (zI s0) (zL s0) (zA s0 56)) s.heap) (hf : Mo_greatest_b29 N kh4 s0 v1 v3 t0 = some y) (ls : Array Slot) (hl : lv_has ls 4 [(0, .ref o0), (1, .int v1), (3, .int v3)]) : W p l e rm_Mo_greatest s m args below meth c s.heap [] 0 0 (MQ below (zSi y) args s 0 0 (fun _ => False)) (F0 m 29 ls [.int t0]) := by
  obtain ⟨hx, hb, hr, hml, hown, hT, hk, hK⟩ := id C0
  refine lv_istore_n (lv' := [(2, .int t0), (0, .ref o0), (1, .int v1), (3, .int v3)]) hx hb dX11_greatest_29 rfl hl (by decide) rfl (fun ls hl => ?_)
  refine lv_iinc (v := v3 + 1) (lv' := [(3, .int (v3 + 1)), (2, .int t0), (0, .ref o0), (1, .int v1)]) hx hb dX11_greatest_30 hl (k := 3) rfl rfl (by decide) rfl (fun ls hl => ?_)
  refine lv_goto (tgt := 4) hx hb dX11_greatest_33 (by decide) ?_
  exact hk4 t0 (v3 + 1) hf _ (lv_sub hl [2, 3, 1, 0] rfl)
set_option maxHeartbeats 4000000 in
set_option maxRecDepth 100000 in
theorem k_Mo_greatest_b4 {p : Program} {l : Launch} {e : Env} {s : State} {m : MethodId} {args : Array Value} {below : List Frame} {meth : Method} {c : Code} {dC : Nat → ClassId} {dI : Nat → Nat → Nat} {cy : Nat → ClassId} {o0 : Nat} {a0 : Nat → Nat} {N : Nat} {kh4 : Int32 → Int32 → Option (Int32)} {y : Int32} (C0 : zCx p s m args meth c cX11_greatest 4 (some .int) RX11 (dC, dI) cy) (s0 : zSt) (v1 : Int32) (v2 : Int32) (v3 : Int32) (hk4 : ∀ (v2 : Int32) (v3 : Int32) (_ : kh4 v2 v3 = some y) (ls : Array Slot) (_ : lv_has ls 4 [(0, .ref o0), (1, .int v1), (2, .int v2), (3, .int v3)]), W p l e rm_Mo_greatest s m args below meth c s.heap [] 0 0 (MQ below (zSi y) args s 0 0 (fun _ => False)) (F0 m 4 ls [])) (hP : va_P (dC, dI) vwCl (wd_Mo_greatest cy o0 a0 (zI s0) (zL s0) (zA s0 56)) s.heap) (hf : Mo_greatest_b4 N kh4 s0 v1 v2 v3 = some y) (ls : Array Slot) (hl : lv_has ls 4 [(0, .ref o0), (1, .int v1), (2, .int v2), (3, .int v3)]) : W p l e rm_Mo_greatest s m args below meth c s.heap [] 0 0 (MQ below (zSi y) args s 0 0 (fun _ => False)) (F0 m 4 ls []) := by
  obtain ⟨hx, hb, hr, hml, hown, hT, hk, hK⟩ := id C0
  refine lv_iload_n hx hb dX11_greatest_4 rfl (lv_at hl 3 rfl) ?_
  refine lv_iload_n hx hb dX11_greatest_5 rfl (lv_at hl 1 rfl) ?_
  refine lv_icmp_ge (tgt := 36) hx hb dX11_greatest_6 (by decide) (fun hb_1 => ?_) (fun hb_1 => ?_)
  · have hf := zif_t hb_1 hf
    refine lv_iload_n hx hb dX11_greatest_36 rfl (lv_at hl 2 rfl) ?_
    cases hf
    exact zeri hx hb hr hk dX11_greatest_37
  · have hf := zif_f hb_1 hf
    refine lv_aload_n hx hb dX11_greatest_9 rfl (lv_at hl 0 rfl) ?_
    refine zget (v := .ref (a0 56)) hx hb hown hT hK hP inX11 rfl smX11 0 rfl 56 (by decide) tb_1058 rfl dX11_greatest_10 ?_
    refine lv_iload_n hx hb dX11_greatest_13 rfl (lv_at hl 3 rfl) ?_
    obtain ⟨hi2, hf⟩ := zck_some hf
    refine va_iald hx hb hK.1 hP 1 0 rfl rfl hi2 dX11_greatest_14 ?_
    refine lv_iload_n hx hb dX11_greatest_15 rfl (lv_at hl 2 rfl) ?_
    refine lv_icmp_le (tgt := 28) hx hb dX11_greatest_16 (by decide) (fun hb_3 => ?_) (fun hb_3 => ?_)
    · have hf := zif_t hb_3 hf
      refine lv_iload_n hx hb dX11_greatest_28 rfl (lv_at hl 2 rfl) ?_
      exact k_Mo_greatest_b29 C0 s0 v1 v3 v2 hk4 hP hf _ (lv_sub hl [0, 1, 3] rfl)
    · have hf := zif_f hb_3 hf
      refine lv_aload_n hx hb dX11_greatest_19 rfl (lv_at hl 0 rfl) ?_
      refine zget (v := .ref (a0 56)) hx hb hown hT hK hP inX11 rfl smX11 0 rfl 56 (by decide) tb_1058 rfl dX11_greatest_20 ?_
      refine lv_iload_n hx hb dX11_greatest_23 rfl (lv_at hl 3 rfl) ?_
      obtain ⟨hi4, hf⟩ := zck_some hf
      refine va_iald hx hb hK.1 hP 1 0 rfl rfl hi4 dX11_greatest_24 ?_
      refine lv_goto (tgt := 29) hx hb dX11_greatest_25 (by decide) ?_
      exact k_Mo_greatest_b29 C0 s0 v1 v3 ((zA s0 56) (Int32.toNatClampNeg v3)) hk4 hP hf _ (lv_sub hl [0, 1, 3] rfl)
set_option maxHeartbeats 4000000 in
set_option maxRecDepth 100000 in
theorem k_Mo_greatest_h4 {p : Program} {l : Launch} {e : Env} {s : State} {m : MethodId} {args : Array Value} {below : List Frame} {meth : Method} {c : Code} {dC : Nat → ClassId} {dI : Nat → Nat → Nat} {cy : Nat → ClassId} {o0 : Nat} {a0 : Nat → Nat} {N : Nat} {y : Int32} (C0 : zCx p s m args meth c cX11_greatest 4 (some .int) RX11 (dC, dI) cy) (s0 : zSt) (v1 : Int32) (hP : va_P (dC, dI) vwCl (wd_Mo_greatest cy o0 a0 (zI s0) (zL s0) (zA s0 56)) s.heap) : ∀ (n : Nat) (v2 : Int32) (v3 : Int32) (hf : Mo_greatest_h4 N s0 v1 n v2 v3 = some y) (ls : Array Slot) (hl : lv_has ls 4 [(0, .ref o0), (1, .int v1), (2, .int v2), (3, .int v3)]), W p l e rm_Mo_greatest s m args below meth c s.heap [] 0 0 (MQ below (zSi y) args s 0 0 (fun _ => False)) (F0 m 4 ls []) := by
  intro n
  induction n with
  | zero => intro v2 v3 hf; cases hf
  | succ n ih =>
    intro v2 v3 hf ls hl
    have hf : Mo_greatest_b4 N (Mo_greatest_h4 N s0 v1 n) s0 v1 v2 v3 = some y := hf
    exact k_Mo_greatest_b4 C0 s0 v1 v2 v3 (fun v2 v3 hf ls hl => ih v2 v3 hf ls hl) hP hf ls hl
set_option maxHeartbeats 4000000 in
set_option maxRecDepth 100000 in
theorem k_Mo_greatest_b0 {p : Program} {l : Launch} {e : Env} {s : State} {m : MethodId} {args : Array Value} {below : List Frame} {meth : Method} {c : Code} {dC : Nat → ClassId} {dI : Nat → Nat → Nat} {cy : Nat → ClassId} {o0 : Nat} {a0 : Nat → Nat} {N : Nat} {y : Int32} (C0 : zCx p s m args meth c cX11_greatest 4 (some .int) RX11 (dC, dI) cy) (s0 : zSt) (v1 : Int32) (hP : va_P (dC, dI) vwCl (wd_Mo_greatest cy o0 a0 (zI s0) (zL s0) (zA s0 56)) s.heap) (hf : Mo_greatest_b0 N s0 v1 = some y) (ls : Array Slot) (hl : lv_has ls 4 [(0, .ref o0), (1, .int v1)]) : W p l e rm_Mo_greatest s m args below meth c s.heap [] 0 0 (MQ below (zSi y) args s 0 0 (fun _ => False)) (F0 m 0 ls []) := by
  obtain ⟨hx, hb, hr, hml, hown, hT, hk, hK⟩ := id C0
  refine lv_iconst (v := (-1)) hx hb dX11_greatest_0 (by decide) ?_
  refine lv_istore_n (lv' := [(2, .int (-1)), (0, .ref o0), (1, .int v1)]) hx hb dX11_greatest_1 rfl hl (by decide) rfl (fun ls hl => ?_)
  refine lv_iconst (v := 0) hx hb dX11_greatest_2 (by decide) ?_
  refine lv_istore_n (lv' := [(3, .int 0), (2, .int (-1)), (0, .ref o0), (1, .int v1)]) hx hb dX11_greatest_3 rfl hl (by decide) rfl (fun ls hl => ?_)
  exact k_Mo_greatest_h4 C0 s0 v1  hP N (-1) 0 hf _ (lv_sub hl [2, 3, 1, 0] rfl)
set_option maxHeartbeats 4000000 in
set_option maxRecDepth 100000 in
theorem c_Mo_greatest {l : Launch} {dC : Nat → ClassId} {dI : Nat → Nat → Nat} {cy : Nat → ClassId} {N : Nat} (o0 : Nat) (a0 : Nat → Nat) (s0 : zSt) (v1 : Int32) {y : Int32} (hf : Mo_greatest N s0 v1 = some y) : Met l yX11_greatest (.code yX11_greatest cX11_greatest 4 (some .int) :: zt) rm_Mo_greatest (va_Pc [.ref o0, .int v1] (zRd (dC, dI) cy (wd_Mo_greatest cy o0 a0 (zI s0) (zL s0) (zA s0 56)))) (zSi y) 0 0 (fun _ => False) :=
  zentR (by decide +kernel) (Nat.le_of_ble_eq_true rfl) (fun p e s m below meth c C0 hP ls hl => k_Mo_greatest_b0 C0 s0 v1 hP hf ls hl)
def wd_Mo_nextTones (cy : Nat → ClassId) (o0 : Nat) (a0 : Nat → Nat) (g0 : Nat → Int32) (h0 : Nat → Int64) (x0_56 : Nat → Int32) : va_W := [(o0, .inr (11, fs_Mo a0 g0 h0)), (a0 56, .inl (cy 0, 9, .inl x0_56))]
def rm_Mo_nextTones : Room := { frames := 2, cells := 0, slots := 0, locals := 63 }
theorem rm_ok_Mo_nextTones_Mo_greatest : rm_Mo_greatest.cells = 0 ∧ rm_Mo_greatest.slots = 0 ∧ rm_Mo_greatest.frames + 1 ≤ rm_Mo_nextTones.frames ∧ 8 + (4 + 11) + rm_Mo_greatest.locals ≤ rm_Mo_nextTones.locals := by decide
set_option maxHeartbeats 4000000 in
set_option maxRecDepth 100000 in
theorem k_Mo_nextTones_b7 {p : Program} {l : Launch} {e : Env} {s : State} {m : MethodId} {args : Array Value} {below : List Frame} {meth : Method} {c : Code} {dC : Nat → ClassId} {dI : Nat → Nat → Nat} {cy : Nat → ClassId} {A : Nat → Prop} {o0 : Nat} {a0 : Nat → Nat} {N : Nat} {kh7 : zSt → Int32 → Option (Int32 × zSt)} {y : Int32 × zSt} (C0 : zCx p s m args meth c cX11_nextTones 2 (some .boolean) RX11 (dC, dI) cy) (s0 : zSt) (v1 : Int32) (hk7 : ∀ (s0 : zSt) (v1 : Int32) {H : Heap} {locs : List Loc} (_ : va_P (dC, dI) vwCl (wd_Mo_nextTones cy o0 a0 (zI s0) (zL s0) (zA s0 56)) H) (_ : va_D A (wd_Mo_nextTones cy o0 a0 (zI s0) (zL s0) (zA s0 56))) (_ : va_S A s.heap H locs) (_ : kh7 s0 v1 = some y) (ls : Array Slot) (_ : lv_has ls 2 [(0, .ref o0), (1, .int v1)]), W p l e rm_Mo_nextTones s m args below meth c H locs 0 0 (MQ below (zQi y.1 (dC, dI) cy (wd_Mo_nextTones cy o0 a0 (zI y.2) (zL y.2) (zA y.2 56)) A) args s 0 0 A) (F0 m 7 ls [])) (hA : ∀ q, s.heap.size ≤ q → A q) {H : Heap} {locs : List Loc} (hP : va_P (dC, dI) vwCl (wd_Mo_nextTones cy o0 a0 (zI s0) (zL s0) (zA s0 56)) H) (hD : va_D A (wd_Mo_nextTones cy o0 a0 (zI s0) (zL s0) (zA s0 56))) (hS : va_S A s.heap H locs) (hf : Mo_nextTones_b7 N kh7 s0 v1 = some y) (ls : Array Slot) (hl : lv_has ls 2 [(0, .ref o0), (1, .int v1)]) : W p l e rm_Mo_nextTones s m args below meth c H locs 0 0 (MQ below (zQi y.1 (dC, dI) cy (wd_Mo_nextTones cy o0 a0 (zI y.2) (zL y.2) (zA y.2 56)) A) args s 0 0 A) (F0 m 7 ls []) := by
  obtain ⟨hx, hb, hr, hml, hown, hT, hk, hK⟩ := id C0
  refine lv_iload_n hx hb dX11_nextTones_7 rfl (lv_at hl 1 rfl) ?_
  refine lv_if_le (tgt := 50) hx hb dX11_nextTones_8 (by decide) (fun hb_1 => ?_) (fun hb_1 => ?_)
  · have hf := zif_t hb_1 hf
    refine lv_iconst (v := 0) hx hb dX11_nextTones_50 (by decide) ?_
    cases hf
    exact zewz hx hb hr hk (Or.inl rfl) hK hP hD hS dX11_nextTones_51
  · have hf := zif_f hb_1 hf
    refine lv_aload_n hx hb dX11_nextTones_11 rfl (lv_at hl 0 rfl) ?_
    refine zget (v := .ref (a0 56)) hx hb hown hT hK hP inX11 rfl smX11 0 rfl 56 (by decide) tb_1058 rfl dX11_nextTones_12 ?_
    refine lv_iload_n hx hb dX11_nextTones_15 rfl (lv_at hl 1 rfl) ?_
    obtain ⟨hi2, hf⟩ := zck_some hf
    refine va_iald hx hb hK.1 hP 1 0 rfl rfl hi2 dX11_nextTones_16 ?_
    refine lv_aload_n hx hb dX11_nextTones_17 rfl (lv_at hl 0 rfl) ?_
    refine lv_iload_n hx hb dX11_nextTones_18 rfl (lv_at hl 1 rfl) ?_
    obtain ⟨z3, hc4, hf⟩ := zbd_some hf
    refine zri (zV (As := [.int v1]) hx hb hml hown hT hl.1 (c_Mo_greatest o0 a0 s0 v1 hc4) zY_Mo_greatest tb_1497 (zpR hK hP [0, 1] rfl 0 11 rfl rfl rfl) rm_ok_Mo_nextTones_Mo_greatest rfl rfl (Nat.le_of_ble_eq_true rfl) dX11_nextTones_19 ⟨Nat.zero_le _, Nat.zero_le _⟩) ?_
    refine lv_icmp_gt (tgt := 37) hx hb dX11_nextTones_22 (by decide) (fun hb_5 => ?_) (fun hb_5 => ?_)
    · have hf := zif_t hb_5 hf
      refine lv_aload_n hx hb dX11_nextTones_37 rfl (lv_at hl 0 rfl) ?_
      refine zget (v := .ref (a0 56)) hx hb hown hT hK hP inX11 rfl smX11 0 rfl 56 (by decide) tb_1058 rfl dX11_nextTones_38 ?_
      refine lv_iload_n hx hb dX11_nextTones_41 rfl (lv_at hl 1 rfl) ?_
      refine lv_iconst (v := 0) hx hb dX11_nextTones_42 (by decide) ?_
      obtain ⟨hi6, hf⟩ := zck_some hf
      refine zast (ws' := (wd_Mo_nextTones cy o0 a0 (zI s0) (zL s0) (upd (zA s0 56) (Int32.toNatClampNeg v1) 0))) hx hb hK hP hD hS 1 0 rfl rfl hi6 rfl dX11_nextTones_43 (fun H locs hP hD hS => ?_)
      refine lv_iinc (v := v1 + (-1)) (lv' := [(1, .int (v1 + (-1))), (0, .ref o0)]) hx hb dX11_nextTones_44 hl (k := 1) rfl rfl (by decide) rfl (fun ls hl => ?_)
      refine lv_goto (tgt := 7) hx hb dX11_nextTones_47 (by decide) ?_
      exact hk7 (zsA s0 56 (upd (zA s0 56) (Int32.toNatClampNeg v1) 0)) (v1 + (-1)) hP hD hS hf _ (lv_sub hl [1, 0] rfl)
    · have hf := zif_f hb_5 hf
      refine lv_aload_n hx hb dX11_nextTones_25 rfl (lv_at hl 0 rfl) ?_
      refine zget (v := .ref (a0 56)) hx hb hown hT hK hP inX11 rfl smX11 0 rfl 56 (by decide) tb_1058 rfl dX11_nextTones_26 ?_
      refine lv_iload_n hx hb dX11_nextTones_29 rfl (lv_at hl 1 rfl) ?_
      refine lv_dup2_11 hx hb dX11_nextTones_30 rfl rfl ?_
      obtain ⟨hi7, hf⟩ := zck_some hf
      refine va_iald hx hb hK.1 hP 1 0 rfl rfl hi7 dX11_nextTones_31 ?_
      refine lv_iconst (v := 1) hx hb dX11_nextTones_32 (by decide) ?_
      refine lv_iadd hx hb dX11_nextTones_33 ?_
      obtain ⟨hi8, hf⟩ := zck_some hf
      refine zast (ws' := (wd_Mo_nextTones cy o0 a0 (zI s0) (zL s0) (upd (zA s0 56) (Int32.toNatClampNeg v1) (((zA s0 56) (Int32.toNatClampNeg v1)) + 1)))) hx hb hK hP hD hS 1 0 rfl rfl hi8 rfl dX11_nextTones_34 (fun H locs hP hD hS => ?_)
      refine lv_iconst (v := 1) hx hb dX11_nextTones_35 (by decide) ?_
      cases hf
      exact zewz hx hb hr hk (Or.inr rfl) hK hP hD hS dX11_nextTones_36
set_option maxHeartbeats 4000000 in
set_option maxRecDepth 100000 in
theorem k_Mo_nextTones_h7 {p : Program} {l : Launch} {e : Env} {s : State} {m : MethodId} {args : Array Value} {below : List Frame} {meth : Method} {c : Code} {dC : Nat → ClassId} {dI : Nat → Nat → Nat} {cy : Nat → ClassId} {A : Nat → Prop} {o0 : Nat} {a0 : Nat → Nat} {N : Nat} {y : Int32 × zSt} (C0 : zCx p s m args meth c cX11_nextTones 2 (some .boolean) RX11 (dC, dI) cy) (hA : ∀ q, s.heap.size ≤ q → A q) : ∀ (n : Nat) (s0 : zSt) (v1 : Int32) {H : Heap} {locs : List Loc} (hP : va_P (dC, dI) vwCl (wd_Mo_nextTones cy o0 a0 (zI s0) (zL s0) (zA s0 56)) H) (hD : va_D A (wd_Mo_nextTones cy o0 a0 (zI s0) (zL s0) (zA s0 56))) (hS : va_S A s.heap H locs) (hf : Mo_nextTones_h7 N n s0 v1 = some y) (ls : Array Slot) (hl : lv_has ls 2 [(0, .ref o0), (1, .int v1)]), W p l e rm_Mo_nextTones s m args below meth c H locs 0 0 (MQ below (zQi y.1 (dC, dI) cy (wd_Mo_nextTones cy o0 a0 (zI y.2) (zL y.2) (zA y.2 56)) A) args s 0 0 A) (F0 m 7 ls []) := by
  intro n
  induction n with
  | zero => intro s0 v1 H locs hP hD hS hf; cases hf
  | succ n ih =>
    intro s0 v1 H locs hP hD hS hf ls hl
    have hf : Mo_nextTones_b7 N (Mo_nextTones_h7 N n) s0 v1 = some y := hf
    exact k_Mo_nextTones_b7 C0 s0 v1 (fun s0 v1 _ _ hP hD hS hf ls hl => ih s0 v1 hP hD hS hf ls hl) hA hP hD hS hf ls hl
set_option maxHeartbeats 4000000 in
set_option maxRecDepth 100000 in
theorem k_Mo_nextTones_b0 {p : Program} {l : Launch} {e : Env} {s : State} {m : MethodId} {args : Array Value} {below : List Frame} {meth : Method} {c : Code} {dC : Nat → ClassId} {dI : Nat → Nat → Nat} {cy : Nat → ClassId} {A : Nat → Prop} {o0 : Nat} {a0 : Nat → Nat} {N : Nat} {y : Int32 × zSt} (C0 : zCx p s m args meth c cX11_nextTones 2 (some .boolean) RX11 (dC, dI) cy) (s0 : zSt) (hA : ∀ q, s.heap.size ≤ q → A q) {H : Heap} {locs : List Loc} (hP : va_P (dC, dI) vwCl (wd_Mo_nextTones cy o0 a0 (zI s0) (zL s0) (zA s0 56)) H) (hD : va_D A (wd_Mo_nextTones cy o0 a0 (zI s0) (zL s0) (zA s0 56))) (hS : va_S A s.heap H locs) (hf : Mo_nextTones_b0 N s0 = some y) (ls : Array Slot) (hl : lv_has ls 2 [(0, .ref o0)]) : W p l e rm_Mo_nextTones s m args below meth c H locs 0 0 (MQ below (zQi y.1 (dC, dI) cy (wd_Mo_nextTones cy o0 a0 (zI y.2) (zL y.2) (zA y.2 56)) A) args s 0 0 A) (F0 m 0 ls []) := by
  obtain ⟨hx, hb, hr, hml, hown, hT, hk, hK⟩ := id C0
  refine lv_aload_n hx hb dX11_nextTones_0 rfl (lv_at hl 0 rfl) ?_
  refine zget (v := .int (zI s0 30)) hx hb hown hT hK hP inX11 rfl smX11 0 rfl 30 (by decide) tb_1032 rfl dX11_nextTones_1 ?_
  refine lv_iconst (v := 1) hx hb dX11_nextTones_4 (by decide) ?_
  refine lv_isub hx hb dX11_nextTones_5 ?_
  refine lv_istore_n (lv' := [(1, .int ((zI s0 30) - 1)), (0, .ref o0)]) hx hb dX11_nextTones_6 rfl hl (by decide) rfl (fun ls hl => ?_)
  exact k_Mo_nextTones_h7 C0   hA N s0 ((zI s0 30) - 1) hP hD hS hf _ (lv_sub hl [1, 0] rfl)
set_option maxHeartbeats 4000000 in
set_option maxRecDepth 100000 in
theorem c_Mo_nextTones {l : Launch} {dC : Nat → ClassId} {dI : Nat → Nat → Nat} {cy : Nat → ClassId} {sz : Nat} {N : Nat} (o0 : Nat) (a0 : Nat → Nat) (s0 : zSt) {y : Int32 × zSt} (hf : Mo_nextTones N s0 = some y) : Met l yX11_nextTones (.code yX11_nextTones cX11_nextTones 2 (some .boolean) :: zt) rm_Mo_nextTones (va_Pc [.ref o0] (zPre (dC, dI) cy (wd_Mo_nextTones cy o0 a0 (zI s0) (zL s0) (zA s0 56)) sz)) (zQi y.1 (dC, dI) cy (wd_Mo_nextTones cy o0 a0 (zI y.2) (zL y.2) (zA y.2 56)) (va_A (wd_Mo_nextTones cy o0 a0 (zI s0) (zL s0) (zA s0 56)) sz)) 0 0 (va_A (wd_Mo_nextTones cy o0 a0 (zI s0) (zL s0) (zA s0 56)) sz) :=
  zentW (Qw := fun A => (zQi y.1 (dC, dI) cy (wd_Mo_nextTones cy o0 a0 (zI y.2) (zL y.2) (zA y.2 56)) A)) (by decide +kernel) (Nat.le_of_ble_eq_true rfl) (fun p e s m below meth c A C0 hA hP hD hS ls hl => k_Mo_nextTones_b0 C0 s0 hA hP hD hS hf ls hl)
def wd_Mo_dealt (cy : Nat → ClassId) (o0 : Nat) (a0 : Nat → Nat) (g0 : Nat → Int32) (h0 : Nat → Int64) (x0_17 : Nat → Int32) (x0_21 : Nat → Int32) (x0_56 : Nat → Int32) (x0_57 : Nat → Int32) (x0_59 : Nat → Int32) (x0_60 : Nat → Int32) : va_W := [(o0, .inr (11, fs_Mo a0 g0 h0)), (a0 17, .inl (cy 0, 11, .inl x0_17)), (a0 21, .inl (cy 0, 9, .inl x0_21)), (a0 56, .inl (cy 0, 9, .inl x0_56)), (a0 57, .inl (cy 0, 9, .inl x0_57)), (a0 59, .inl (cy 0, 12, .inl x0_59)), (a0 60, .inl (cy 0, 64, .inl x0_60))]
def rm_Mo_dealt : Room := { frames := 3, cells := 0, slots := 0, locals := 86 }
theorem rm_ok_Mo_dealt_Mo_areKnown : rm_Mo_areKnown.cells = 0 ∧ rm_Mo_areKnown.slots = 0 ∧ rm_Mo_areKnown.frames + 1 ≤ rm_Mo_dealt.frames ∧ 8 + (3 + 11) + rm_Mo_areKnown.locals ≤ rm_Mo_dealt.locals := by decide
theorem rm_ok_Mo_dealt_Mo_clearTried : rm_Mo_clearTried.cells = 0 ∧ rm_Mo_clearTried.slots = 0 ∧ rm_Mo_clearTried.frames + 1 ≤ rm_Mo_dealt.frames ∧ 8 + (2 + 11) + rm_Mo_clearTried.locals ≤ rm_Mo_dealt.locals := by decide
theorem rm_ok_Mo_dealt_Mo_greatest : rm_Mo_greatest.cells = 0 ∧ rm_Mo_greatest.slots = 0 ∧ rm_Mo_greatest.frames + 1 ≤ rm_Mo_dealt.frames ∧ 8 + (4 + 11) + rm_Mo_greatest.locals ≤ rm_Mo_dealt.locals := by decide
theorem rm_ok_Mo_dealt_Mo_isIn : rm_Mo_isIn.cells = 0 ∧ rm_Mo_isIn.slots = 0 ∧ rm_Mo_isIn.frames + 1 ≤ rm_Mo_dealt.frames ∧ 8 + (3 + 11) + rm_Mo_isIn.locals ≤ rm_Mo_dealt.locals := by decide
theorem rm_ok_Mo_dealt_Mo_layFew : rm_Mo_layFew.cells = 0 ∧ rm_Mo_layFew.slots = 0 ∧ rm_Mo_layFew.frames + 1 ≤ rm_Mo_dealt.frames ∧ 8 + (3 + 11) + rm_Mo_layFew.locals ≤ rm_Mo_dealt.locals := by decide
theorem rm_ok_Mo_dealt_Mo_nextTones : rm_Mo_nextTones.cells = 0 ∧ rm_Mo_nextTones.slots = 0 ∧ rm_Mo_nextTones.frames + 1 ≤ rm_Mo_dealt.frames ∧ 8 + (2 + 11) + rm_Mo_nextTones.locals ≤ rm_Mo_dealt.locals := by decide
theorem rm_ok_Mo_dealt_Mo_putDown : rm_Mo_putDown.cells = 0 ∧ rm_Mo_putDown.slots = 0 ∧ rm_Mo_putDown.frames + 1 ≤ rm_Mo_dealt.frames ∧ 8 + (2 + 11) + rm_Mo_putDown.locals ≤ rm_Mo_dealt.locals := by decide
set_option maxHeartbeats 4000000 in
set_option maxRecDepth 100000 in
theorem k_Mo_dealt_b81 {p : Program} {l : Launch} {e : Env} {s : State} {m : MethodId} {args : Array Value} {below : List Frame} {meth : Method} {c : Code} {dC : Nat → ClassId} {dI : Nat → Nat → Nat} {cy : Nat → ClassId} {A : Nat → Prop} {o0 : Nat} {a0 : Nat → Nat} {N : Nat} {kh41 : zSt → Int32 → Int32 → Option (Int32 × zSt)} {y : Int32 × zSt} (C0 : zCx p s m args meth c cX11_dealt 5 (some .int) RX11 (dC, dI) cy) (s0 : zSt) (v2 : Int32) (hk41 : ∀ (s0 : zSt) (v2 : Int32) (v3 : Int32) {H : Heap} {locs : List Loc} (_ : va_P (dC, dI) vwCl (wd_Mo_dealt cy o0 a0 (zI s0) (zL s0) (zA s0 17) (zA s0 21) (zA s0 56) (zA s0 57) (zA s0 59) (zA s0 60)) H) (_ : va_D A (wd_Mo_dealt cy o0 a0 (zI s0) (zL s0) (zA s0 17) (zA s0 21) (zA s0 56) (zA s0 57) (zA s0 59) (zA s0 60))) (_ : va_S A s.heap H locs) (_ : kh41 s0 v2 v3 = some y) (ls : Array Slot) (_ : lv_has ls 5 [(0, .ref o0), (2, .int v2), (3, .int v3)]), W p l e rm_Mo_dealt s m args below meth c H locs 0 0 (MQ below (zQi y.1 (dC, dI) cy (wd_Mo_dealt cy o0 a0 (zI y.2) (zL y.2) (zA y.2 17) (zA y.2 21) (zA y.2 56) (zA y.2 57) (zA y.2 59) (zA y.2 60)) A) args s 0 0 A) (F0 m 41 ls [])) (hA : ∀ q, s.heap.size ≤ q → A q) {H : Heap} {locs : List Loc} (hP : va_P (dC, dI) vwCl (wd_Mo_dealt cy o0 a0 (zI s0) (zL s0) (zA s0 17) (zA s0 21) (zA s0 56) (zA s0 57) (zA s0 59) (zA s0 60)) H) (hD : va_D A (wd_Mo_dealt cy o0 a0 (zI s0) (zL s0) (zA s0 17) (zA s0 21) (zA s0 56) (zA s0 57) (zA s0 59) (zA s0 60))) (hS : va_S A s.heap H locs) (hf : Mo_dealt_b81 N kh41 s0 v2 = some y) (ls : Array Slot) (hl : lv_has ls 5 [(0, .ref o0), (2, .int v2)]) : W p l e rm_Mo_dealt s m args below meth c H locs 0 0 (MQ below (zQi y.1 (dC, dI) cy (wd_Mo_dealt cy o0 a0 (zI y.2) (zL y.2) (zA y.2 17) (zA y.2 21) (zA y.2 56) (zA y.2 57) (zA y.2 59) (zA y.2 60)) A) args s 0 0 A) (F0 m 81 ls []) := by
  obtain ⟨hx, hb, hr, hml, hown, hT, hk, hK⟩ := id C0
  refine lv_aload_n hx hb dX11_dealt_81 rfl (lv_at hl 0 rfl) ?_
  obtain ⟨z1, hc2, hf⟩ := zbd_some hf
  refine zwi (wr := [(a0 17, .inl (cy 0, 11, .inl (zA s0 17))), (a0 21, .inl (cy 0, 9, .inl (zA s0 21))), (a0 57, .inl (cy 0, 9, .inl (zA s0 57))), (a0 59, .inl (cy 0, 12, .inl (zA s0 59))), (a0 60, .inl (cy 0, 64, .inl (zA s0 60)))]) (ws' := (wd_Mo_dealt cy o0 a0 (zI z1.2) (zL z1.2) (zA s0 17) (zA s0 21) (zA z1.2 56) (zA s0 57) (zA s0 59) (zA s0 60))) (zV (As := []) hx hb hml hown hT hl.1 (c_Mo_nextTones o0 a0 s0 hc2) zY_Mo_nextTones tb_1509 (zpRw hK hP hD [0, 3] (by decide) rfl 0 11 rfl rfl rfl rfl) rm_ok_Mo_dealt_Mo_nextTones rfl rfl (Nat.le_of_ble_eq_true rfl) dX11_dealt_82 ⟨Nat.zero_le _, Nat.zero_le _⟩) hP hD hS hA [0, 3] [1, 2, 4, 5, 6] [5, 0, 1, 6, 2, 3, 4] rfl rfl (by decide) (by decide) (by decide) rfl rfl (fun H locs hP hD hS => ?_)
  refine lv_istore_n (lv' := [(3, .int z1.1), (0, .ref o0), (2, .int v2)]) hx hb dX11_dealt_85 rfl hl (by decide) rfl (fun ls hl => ?_)
  refine lv_goto (tgt := 41) hx hb dX11_dealt_86 (by decide) ?_
  exact hk41 (zmg [17,21,57,59,60] z1.2 s0) v2 z1.1 hP hD hS hf _ (lv_sub hl [1, 2, 0] rfl)
set_option maxHeartbeats 4000000 in
set_option maxRecDepth 100000 in
theorem k_Mo_dealt_b67 {p : Program} {l : Launch} {e : Env} {s : State} {m : MethodId} {args : Array Value} {below : List Frame} {meth : Method} {c : Code} {dC : Nat → ClassId} {dI : Nat → Nat → Nat} {cy : Nat → ClassId} {A : Nat → Prop} {o0 : Nat} {a0 : Nat → Nat} {N : Nat} {kh41 : zSt → Int32 → Int32 → Option (Int32 × zSt)} {y : Int32 × zSt} (C0 : zCx p s m args meth c cX11_dealt 5 (some .int) RX11 (dC, dI) cy) (s0 : zSt) (v2 : Int32) (v4 : Int32) (hk41 : ∀ (s0 : zSt) (v2 : Int32) (v3 : Int32) {H : Heap} {locs : List Loc} (_ : va_P (dC, dI) vwCl (wd_Mo_dealt cy o0 a0 (zI s0) (zL s0) (zA s0 17) (zA s0 21) (zA s0 56) (zA s0 57) (zA s0 59) (zA s0 60)) H) (_ : va_D A (wd_Mo_dealt cy o0 a0 (zI s0) (zL s0) (zA s0 17) (zA s0 21) (zA s0 56) (zA s0 57) (zA s0 59) (zA s0 60))) (_ : va_S A s.heap H locs) (_ : kh41 s0 v2 v3 = some y) (ls : Array Slot) (_ : lv_has ls 5 [(0, .ref o0), (2, .int v2), (3, .int v3)]), W p l e rm_Mo_dealt s m args below meth c H locs 0 0 (MQ below (zQi y.1 (dC, dI) cy (wd_Mo_dealt cy o0 a0 (zI y.2) (zL y.2) (zA y.2 17) (zA y.2 21) (zA y.2 56) (zA y.2 57) (zA y.2 59) (zA y.2 60)) A) args s 0 0 A) (F0 m 41 ls [])) (hA : ∀ q, s.heap.size ≤ q → A q) {H : Heap} {locs : List Loc} (hP : va_P (dC, dI) vwCl (wd_Mo_dealt cy o0 a0 (zI s0) (zL s0) (zA s0 17) (zA s0 21) (zA s0 56) (zA s0 57) (zA s0 59) (zA s0 60)) H) (hD : va_D A (wd_Mo_dealt cy o0 a0 (zI s0) (zL s0) (zA s0 17) (zA s0 21) (zA s0 56) (zA s0 57) (zA s0 59) (zA s0 60))) (hS : va_S A s.heap H locs) (hf : Mo_dealt_b67 N kh41 s0 v2 v4 = some y) (ls : Array Slot) (hl : lv_has ls 5 [(0, .ref o0), (2, .int v2), (4, .int v4)]) : W p l e rm_Mo_dealt s m args below meth c H locs 0 0 (MQ below (zQi y.1 (dC, dI) cy (wd_Mo_dealt cy o0 a0 (zI y.2) (zL y.2) (zA y.2 17) (zA y.2 21) (zA y.2 56) (zA y.2 57) (zA y.2 59) (zA y.2 60)) A) args s 0 0 A) (F0 m 67 ls []) := by
  obtain ⟨hx, hb, hr, hml, hown, hT, hk, hK⟩ := id C0
  refine lv_aload_n hx hb dX11_dealt_67 rfl (lv_at hl 0 rfl) ?_
  obtain ⟨z1, hc2, hf⟩ := zbd_some hf
  refine zwi (wr := [(a0 57, .inl (cy 0, 9, .inl (zA s0 57)))]) (ws' := (wd_Mo_dealt cy o0 a0 (zI z1.2) (zL z1.2) (zA z1.2 17) (zA z1.2 21) (zA z1.2 56) (zA s0 57) (zA z1.2 59) (zA z1.2 60))) (zV (As := []) hx hb hml hown hT hl.1 (c_Mo_areKnown o0 a0 s0 hc2) zY_Mo_areKnown tb_1501 (zpRw hK hP hD [0, 1, 2, 3, 5, 6] (by decide) rfl 0 11 rfl rfl rfl rfl) rm_ok_Mo_dealt_Mo_areKnown rfl rfl (Nat.le_of_ble_eq_true rfl) dX11_dealt_68 ⟨Nat.zero_le _, Nat.zero_le _⟩) hP hD hS hA [0, 1, 2, 3, 5, 6] [4] [1, 2, 3, 4, 0, 5, 6] rfl rfl (by decide) (by decide) (by decide) rfl rfl (fun H locs hP hD hS => ?_)
  refine lv_if_eq (tgt := 81) hx hb dX11_dealt_71 (by decide) (fun hb_3 => ?_) (fun hb_3 => ?_)
  · have hf := zif_t hb_3 hf
    exact k_Mo_dealt_b81 C0 (zmg [57] z1.2 s0) v2 hk41 hA hP hD hS hf _ (lv_sub hl [0, 1] rfl)
  · have hf := zif_f hb_3 hf
    refine lv_iload hx hb dX11_dealt_74 (lv_at hl 2 rfl) ?_
    refine lv_istore_n (lv' := [(2, .int v4), (0, .ref o0), (4, .int v4)]) hx hb dX11_dealt_76 rfl hl (by decide) rfl (fun ls hl => ?_)
    refine lv_aload_n hx hb dX11_dealt_77 rfl (lv_at hl 1 rfl) ?_
    obtain ⟨z4, hc5, hf⟩ := zbd_some hf
    refine zwv (wr := [(a0 17, .inl (cy 0, 11, .inl (zA z1.2 17))), (a0 21, .inl (cy 0, 9, .inl (zA z1.2 21))), (a0 59, .inl (cy 0, 12, .inl (zA z1.2 59))), (a0 60, .inl (cy 0, 64, .inl (zA z1.2 60)))]) (ws' := (wd_Mo_dealt cy o0 a0 (zI z4) (zL z4) (zA z1.2 17) (zA z1.2 21) (zA z4 56) (zA z4 57) (zA z1.2 59) (zA z1.2 60))) (zV (As := []) hx hb hml hown hT hl.1 (c_Mo_putDown o0 a0 (zmg [57] z1.2 s0) hc5) zY_Mo_putDown tb_1470 (zpRw hK hP hD [0, 3, 4] (by decide) rfl 0 11 rfl rfl rfl rfl) rm_ok_Mo_dealt_Mo_putDown rfl rfl (Nat.le_of_ble_eq_true rfl) dX11_dealt_78 ⟨Nat.zero_le _, Nat.zero_le _⟩) hP hD hS hA [0, 3, 4] [1, 2, 5, 6] [4, 0, 1, 5, 6, 2, 3] rfl rfl (by decide) (by decide) (by decide) rfl rfl (fun H locs hP hD hS => ?_)
    exact k_Mo_dealt_b81 C0 (zmg [17,21,59,60] z4 (zmg [57] z1.2 s0)) v4 hk41 hA hP hD hS hf _ (lv_sub hl [1, 0] rfl)
set_option maxHeartbeats 4000000 in
set_option maxRecDepth 100000 in
theorem k_Mo_dealt_b41 {p : Program} {l : Launch} {e : Env} {s : State} {m : MethodId} {args : Array Value} {below : List Frame} {meth : Method} {c : Code} {dC : Nat → ClassId} {dI : Nat → Nat → Nat} {cy : Nat → ClassId} {A : Nat → Prop} {o0 : Nat} {a0 : Nat → Nat} {N : Nat} {kh41 : zSt → Int32 → Int32 → Option (Int32 × zSt)} {y : Int32 × zSt} (C0 : zCx p s m args meth c cX11_dealt 5 (some .int) RX11 (dC, dI) cy) (s0 : zSt) (v2 : Int32) (v3 : Int32) (hk41 : ∀ (s0 : zSt) (v2 : Int32) (v3 : Int32) {H : Heap} {locs : List Loc} (_ : va_P (dC, dI) vwCl (wd_Mo_dealt cy o0 a0 (zI s0) (zL s0) (zA s0 17) (zA s0 21) (zA s0 56) (zA s0 57) (zA s0 59) (zA s0 60)) H) (_ : va_D A (wd_Mo_dealt cy o0 a0 (zI s0) (zL s0) (zA s0 17) (zA s0 21) (zA s0 56) (zA s0 57) (zA s0 59) (zA s0 60))) (_ : va_S A s.heap H locs) (_ : kh41 s0 v2 v3 = some y) (ls : Array Slot) (_ : lv_has ls 5 [(0, .ref o0), (2, .int v2), (3, .int v3)]), W p l e rm_Mo_dealt s m args below meth c H locs 0 0 (MQ below (zQi y.1 (dC, dI) cy (wd_Mo_dealt cy o0 a0 (zI y.2) (zL y.2) (zA y.2 17) (zA y.2 21) (zA y.2 56) (zA y.2 57) (zA y.2 59) (zA y.2 60)) A) args s 0 0 A) (F0 m 41 ls [])) (hA : ∀ q, s.heap.size ≤ q → A q) {H : Heap} {locs : List Loc} (hP : va_P (dC, dI) vwCl (wd_Mo_dealt cy o0 a0 (zI s0) (zL s0) (zA s0 17) (zA s0 21) (zA s0 56) (zA s0 57) (zA s0 59) (zA s0 60)) H) (hD : va_D A (wd_Mo_dealt cy o0 a0 (zI s0) (zL s0) (zA s0 17) (zA s0 21) (zA s0 56) (zA s0 57) (zA s0 59) (zA s0 60))) (hS : va_S A s.heap H locs) (hf : Mo_dealt_b41 N kh41 s0 v2 v3 = some y) (ls : Array Slot) (hl : lv_has ls 5 [(0, .ref o0), (2, .int v2), (3, .int v3)]) : W p l e rm_Mo_dealt s m args below meth c H locs 0 0 (MQ below (zQi y.1 (dC, dI) cy (wd_Mo_dealt cy o0 a0 (zI y.2) (zL y.2) (zA y.2 17) (zA y.2 21) (zA y.2 56) (zA y.2 57) (zA y.2 59) (zA y.2 60)) A) args s 0 0 A) (F0 m 41 ls []) := by
  obtain ⟨hx, hb, hr, hml, hown, hT, hk, hK⟩ := id C0
  refine lv_iload_n hx hb dX11_dealt_41 rfl (lv_at hl 2 rfl) ?_
  refine lv_if_eq (tgt := 89) hx hb dX11_dealt_42 (by decide) (fun hb_1 => ?_) (fun hb_1 => ?_)
  · have hf := zif_t hb_1 hf
    refine lv_iload_n hx hb dX11_dealt_89 rfl (lv_at hl 1 rfl) ?_
    cases hf
    exact zewi hx hb hr hk hK hP hD hS dX11_dealt_90
  · have hf := zif_f hb_1 hf
    refine lv_aload_n hx hb dX11_dealt_45 rfl (lv_at hl 0 rfl) ?_
    refine lv_aload_n hx hb dX11_dealt_46 rfl (lv_at hl 0 rfl) ?_
    refine zget (v := .int (zI s0 30)) hx hb hown hT hK hP inX11 rfl smX11 0 rfl 30 (by decide) tb_1032 rfl dX11_dealt_47 ?_
    obtain ⟨z2, hc3, hf⟩ := zbd_some hf
    refine zri (zV (As := [.int (zI s0 30)]) hx hb hml hown hT hl.1 (c_Mo_greatest o0 a0 s0 (zI s0 30) hc3) zY_Mo_greatest tb_1497 (zpR hK hP [0, 3] rfl 0 11 rfl rfl rfl) rm_ok_Mo_dealt_Mo_greatest rfl rfl (Nat.le_of_ble_eq_true rfl) dX11_dealt_50 ⟨Nat.zero_le _, Nat.zero_le _⟩) ?_
    refine lv_iconst (v := 1) hx hb dX11_dealt_53 (by decide) ?_
    refine lv_iadd hx hb dX11_dealt_54 ?_
    refine lv_istore (lv' := [(4, .int (z2 + 1)), (0, .ref o0), (2, .int v2), (3, .int v3)]) hx hb dX11_dealt_55 hl (by decide) rfl (fun ls hl => ?_)
    refine lv_iload_n hx hb dX11_dealt_57 rfl (lv_at hl 2 rfl) ?_
    refine lv_if_lt (tgt := 67) hx hb dX11_dealt_58 (by decide) (fun hb_4 => ?_) (fun hb_4 => ?_)
    · have hf := zif_t hb_4 hf
      exact k_Mo_dealt_b67 C0 s0 v2 (z2 + 1) hk41 hA hP hD hS hf _ (lv_sub hl [1, 2, 0] rfl)
    · have hf := zif_f hb_4 hf
      refine lv_iload hx hb dX11_dealt_61 (lv_at hl 0 rfl) ?_
      refine lv_iload_n hx hb dX11_dealt_63 rfl (lv_at hl 2 rfl) ?_
      refine lv_icmp_ge (tgt := 81) hx hb dX11_dealt_64 (by decide) (fun hb_5 => ?_) (fun hb_5 => ?_)
      · have hf := zif_t hb_5 hf
        exact k_Mo_dealt_b81 C0 s0 v2 hk41 hA hP hD hS hf _ (lv_sub hl [1, 2] rfl)
      · have hf := zif_f hb_5 hf
        exact k_Mo_dealt_b67 C0 s0 v2 (z2 + 1) hk41 hA hP hD hS hf _ (lv_sub hl [1, 2, 0] rfl)
set_option maxHeartbeats 4000000 in
set_option maxRecDepth 100000 in
theorem k_Mo_dealt_h41 {p : Program} {l : Launch} {e : Env} {s : State} {m : MethodId} {args : Array Value} {below : List Frame} {meth : Method} {c : Code} {dC : Nat → ClassId} {dI : Nat → Nat → Nat} {cy : Nat → ClassId} {A : Nat → Prop} {o0 : Nat} {a0 : Nat → Nat} {N : Nat} {y : Int32 × zSt} (C0 : zCx p s m args meth c cX11_dealt 5 (some .int) RX11 (dC, dI) cy) (hA : ∀ q, s.heap.size ≤ q → A q) : ∀ (n : Nat) (s0 : zSt) (v2 : Int32) (v3 : Int32) {H : Heap} {locs : List Loc} (hP : va_P (dC, dI) vwCl (wd_Mo_dealt cy o0 a0 (zI s0) (zL s0) (zA s0 17) (zA s0 21) (zA s0 56) (zA s0 57) (zA s0 59) (zA s0 60)) H) (hD : va_D A (wd_Mo_dealt cy o0 a0 (zI s0) (zL s0) (zA s0 17) (zA s0 21) (zA s0 56) (zA s0 57) (zA s0 59) (zA s0 60))) (hS : va_S A s.heap H locs) (hf : Mo_dealt_h41 N n s0 v2 v3 = some y) (ls : Array Slot) (hl : lv_has ls 5 [(0, .ref o0), (2, .int v2), (3, .int v3)]), W p l e rm_Mo_dealt s m args below meth c H locs 0 0 (MQ below (zQi y.1 (dC, dI) cy (wd_Mo_dealt cy o0 a0 (zI y.2) (zL y.2) (zA y.2 17) (zA y.2 21) (zA y.2 56) (zA y.2 57) (zA y.2 59) (zA y.2 60)) A) args s 0 0 A) (F0 m 41 ls []) := by
  intro n
  induction n with
  | zero => intro s0 v2 v3 H locs hP hD hS hf; cases hf
  | succ n ih =>
    intro s0 v2 v3 H locs hP hD hS hf ls hl
    have hf : Mo_dealt_b41 N (Mo_dealt_h41 N n) s0 v2 v3 = some y := hf
    exact k_Mo_dealt_b41 C0 s0 v2 v3 (fun s0 v2 v3 _ _ hP hD hS hf ls hl => ih s0 v2 v3 hP hD hS hf ls hl) hA hP hD hS hf ls hl
set_option maxHeartbeats 4000000 in
set_option maxRecDepth 100000 in
theorem k_Mo_dealt_b0 {p : Program} {l : Launch} {e : Env} {s : State} {m : MethodId} {args : Array Value} {below : List Frame} {meth : Method} {c : Code} {dC : Nat → ClassId} {dI : Nat → Nat → Nat} {cy : Nat → ClassId} {A : Nat → Prop} {o0 : Nat} {a0 : Nat → Nat} {N : Nat} {y : Int32 × zSt} (C0 : zCx p s m args meth c cX11_dealt 5 (some .int) RX11 (dC, dI) cy) (s0 : zSt) (v1 : Int32) (hA : ∀ q, s.heap.size ≤ q → A q) {H : Heap} {locs : List Loc} (hP : va_P (dC, dI) vwCl (wd_Mo_dealt cy o0 a0 (zI s0) (zL s0) (zA s0 17) (zA s0 21) (zA s0 56) (zA s0 57) (zA s0 59) (zA s0 60)) H) (hD : va_D A (wd_Mo_dealt cy o0 a0 (zI s0) (zL s0) (zA s0 17) (zA s0 21) (zA s0 56) (zA s0 57) (zA s0 59) (zA s0 60))) (hS : va_S A s.heap H locs) (hf : Mo_dealt_b0 N s0 v1 = some y) (ls : Array Slot) (hl : lv_has ls 5 [(0, .ref o0), (1, .int v1)]) : W p l e rm_Mo_dealt s m args below meth c H locs 0 0 (MQ below (zQi y.1 (dC, dI) cy (wd_Mo_dealt cy o0 a0 (zI y.2) (zL y.2) (zA y.2 17) (zA y.2 21) (zA y.2 56) (zA y.2 57) (zA y.2 59) (zA y.2 60)) A) args s 0 0 A) (F0 m 0 ls []) := by
  obtain ⟨hx, hb, hr, hml, hown, hT, hk, hK⟩ := id C0
  refine lv_aload_n hx hb dX11_dealt_0 rfl (lv_at hl 0 rfl) ?_
  refine lv_iconst (v := 0) hx hb dX11_dealt_1 (by decide) ?_
  refine zput (fs' := fs_Mo a0 (upd (zI s0) 58 0) (zL s0)) (ws' := (wd_Mo_dealt cy o0 a0 (upd (zI s0) 58 0) (zL s0) (zA s0 17) (zA s0 21) (zA s0 56) (zA s0 57) (zA s0 59) (zA s0 60))) hx hb hown hT hK hP hD hS inX11 rfl smX11 tyX11_ok nmX11 0 rfl 58 (by decide) tb_1060 rfl rfl rfl (Nat.le_of_ble_eq_true rfl) rfl rfl dX11_dealt_2 (fun H locs hP hD hS => ?_)
  refine lv_iload_n hx hb dX11_dealt_5 rfl (lv_at hl 1 rfl) ?_
  refine lv_iconst (v := 1) hx hb dX11_dealt_6 (by decide) ?_
  refine lv_iconst (v := 2) hx hb dX11_dealt_7 (by decide) ?_
  obtain ⟨z1, hc2, hf⟩ := zbd_some hf
  refine zri (zS (As := [.int v1, .int 1, .int 2]) hx hb hml hown hT hl.1 (c_Mo_isIn v1 1 2 hc2) zY_Mo_isIn tb_1319 (zpS hK hP [] rfl) rm_ok_Mo_dealt_Mo_isIn rfl rfl (Nat.le_of_ble_eq_true rfl) dX11_dealt_8 ⟨Nat.zero_le _, Nat.zero_le _⟩) ?_
  refine lv_if_ne (tgt := 16) hx hb dX11_dealt_11 (by decide) (fun hb_3 => ?_) (fun hb_3 => ?_)
  · have hf := zif_f hb_3 hf
    refine lv_aload_n hx hb dX11_dealt_16 rfl (lv_at hl 0 rfl) ?_
    refine zget (v := .int (zI s0 30)) hx hb hown hT hK hP inX11 rfl smX11 0 rfl 30 (by decide) tb_1032 rfl dX11_dealt_17 ?_
    refine lv_bipush (v := 8) hx hb dX11_dealt_20 (by decide) ?_
    refine lv_icmp_le (tgt := 28) hx hb dX11_dealt_22 (by decide) (fun hb_4 => ?_) (fun hb_4 => ?_)
    · have hf := zif_t hb_4 hf
      refine lv_aload_n hx hb dX11_dealt_28 rfl (lv_at hl 0 rfl) ?_
      obtain ⟨z5, hc6, hf⟩ := zbd_some hf
      refine zwv (wr := [(a0 17, .inl (cy 0, 11, .inl (zA s0 17))), (a0 21, .inl (cy 0, 9, .inl (zA s0 21))), (a0 57, .inl (cy 0, 9, .inl (zA s0 57))), (a0 59, .inl (cy 0, 12, .inl (zA s0 59))), (a0 60, .inl (cy 0, 64, .inl (zA s0 60)))]) (ws' := (wd_Mo_dealt cy o0 a0 (zI z5) (zL z5) (zA s0 17) (zA s0 21) (zA z5 56) (zA s0 57) (zA s0 59) (zA s0 60))) (zV (As := []) hx hb hml hown hT hl.1 (c_Mo_clearTried o0 a0 (zpI s0 58 0) hc6) zY_Mo_clearTried tb_1454 (zpRw hK hP hD [0, 3] (by decide) rfl 0 11 rfl rfl rfl rfl) rm_ok_Mo_dealt_Mo_clearTried rfl rfl (Nat.le_of_ble_eq_true rfl) dX11_dealt_29 ⟨Nat.zero_le _, Nat.zero_le _⟩) hP hD hS hA [0, 3] [1, 2, 4, 5, 6] [5, 0, 1, 6, 2, 3, 4] rfl rfl (by decide) (by decide) (by decide) rfl rfl (fun H locs hP hD hS => ?_)
      refine lv_aload_n hx hb dX11_dealt_32 rfl (lv_at hl 0 rfl) ?_
      refine lv_iload_n hx hb dX11_dealt_33 rfl (lv_at hl 1 rfl) ?_
      obtain ⟨z7, hc8, hf⟩ := zbd_some hf
      refine zwv (wr := [(a0 17, .inl (cy 0, 11, .inl (zA s0 17))), (a0 21, .inl (cy 0, 9, .inl (zA s0 21))), (a0 56, .inl (cy 0, 9, .inl (zA z5 56))), (a0 57, .inl (cy 0, 9, .inl (zA s0 57))), (a0 59, .inl (cy 0, 12, .inl (zA s0 59)))]) (ws' := (wd_Mo_dealt cy o0 a0 (zI z7) (zL z7) (zA s0 17) (zA s0 21) (zA z5 56) (zA s0 57) (zA s0 59) (zA z7 60))) (zV (As := [.int v1]) hx hb hml hown hT hl.1 (c_Mo_layFew o0 a0 (zmg [17,21,57,59,60] z5 (zpI s0 58 0)) v1 hc8) zY_Mo_layFew tb_1490 (zpRw hK hP hD [0, 6] (by decide) rfl 0 11 rfl rfl rfl rfl) rm_ok_Mo_dealt_Mo_layFew rfl rfl (Nat.le_of_ble_eq_true rfl) dX11_dealt_34 ⟨Nat.zero_le _, Nat.zero_le _⟩) hP hD hS hA [0, 6] [1, 2, 3, 4, 5] [5, 0, 1, 2, 3, 4, 6] rfl rfl (by decide) (by decide) (by decide) rfl rfl (fun H locs hP hD hS => ?_)
      refine lv_iconst (v := (-1)) hx hb dX11_dealt_37 (by decide) ?_
      refine lv_istore_n (lv' := [(2, .int (-1)), (0, .ref o0), (1, .int v1)]) hx hb dX11_dealt_38 rfl hl (by decide) rfl (fun ls hl => ?_)
      refine lv_iconst (v := 1) hx hb dX11_dealt_39 (by decide) ?_
      refine lv_istore_n (lv' := [(3, .int 1), (2, .int (-1)), (0, .ref o0), (1, .int v1)]) hx hb dX11_dealt_40 rfl hl (by decide) rfl (fun ls hl => ?_)
      exact k_Mo_dealt_h41 C0   hA N (zmg [17,21,56,57,59] z7 (zmg [17,21,57,59,60] z5 (zpI s0 58 0))) (-1) 1 hP hD hS hf _ (lv_sub hl [2, 1, 0] rfl)
    · have hf := zif_f hb_4 hf
      refine lv_bipush (v := (-2)) hx hb dX11_dealt_25 (by decide) ?_
      cases hf
      exact zewi hx hb hr hk hK hP hD hS dX11_dealt_27
  · have hf := zif_t hb_3 hf
    refine lv_iconst (v := (-1)) hx hb dX11_dealt_14 (by decide) ?_
    cases hf
    exact zewi hx hb hr hk hK hP hD hS dX11_dealt_15
set_option maxHeartbeats 4000000 in
set_option maxRecDepth 100000 in
theorem c_Mo_dealt {l : Launch} {dC : Nat → ClassId} {dI : Nat → Nat → Nat} {cy : Nat → ClassId} {sz : Nat} {N : Nat} (o0 : Nat) (a0 : Nat → Nat) (s0 : zSt) (v1 : Int32) {y : Int32 × zSt} (hf : Mo_dealt N s0 v1 = some y) : Met l yX11_dealt (.code yX11_dealt cX11_dealt 5 (some .int) :: zt) rm_Mo_dealt (va_Pc [.ref o0, .int v1] (zPre (dC, dI) cy (wd_Mo_dealt cy o0 a0 (zI s0) (zL s0) (zA s0 17) (zA s0 21) (zA s0 56) (zA s0 57) (zA s0 59) (zA s0 60)) sz)) (zQi y.1 (dC, dI) cy (wd_Mo_dealt cy o0 a0 (zI y.2) (zL y.2) (zA y.2 17) (zA y.2 21) (zA y.2 56) (zA y.2 57) (zA y.2 59) (zA y.2 60)) (va_A (wd_Mo_dealt cy o0 a0 (zI s0) (zL s0) (zA s0 17) (zA s0 21) (zA s0 56) (zA s0 57) (zA s0 59) (zA s0 60)) sz)) 0 0 (va_A (wd_Mo_dealt cy o0 a0 (zI s0) (zL s0) (zA s0 17) (zA s0 21) (zA s0 56) (zA s0 57) (zA s0 59) (zA s0 60)) sz) :=
  zentW (Qw := fun A => (zQi y.1 (dC, dI) cy (wd_Mo_dealt cy o0 a0 (zI y.2) (zL y.2) (zA y.2 17) (zA y.2 21) (zA y.2 56) (zA y.2 57) (zA y.2 59) (zA y.2 60)) A)) (by decide +kernel) (Nat.le_of_ble_eq_true rfl) (fun p e s m below meth c A C0 hA hP hD hS ls hl => k_Mo_dealt_b0 C0 s0 v1 hA hP hD hS hf ls hl)
def wd_Mo_lies (cy : Nat → ClassId) (o0 : Nat) (a0 : Nat → Nat) (g0 : Nat → Int32) (h0 : Nat → Int64) (x0_57 : Nat → Int32) : va_W := [(o0, .inr (11, fs_Mo a0 g0 h0)), (a0 57, .inl (cy 0, 9, .inl x0_57))]
def rm_Mo_lies : Room := { frames := 2, cells := 0, slots := 0, locals := 62 }
theorem rm_ok_Mo_lies_Mo_isIn : rm_Mo_isIn.cells = 0 ∧ rm_Mo_isIn.slots = 0 ∧ rm_Mo_isIn.frames + 1 ≤ rm_Mo_lies.frames ∧ 8 + (3 + 11) + rm_Mo_isIn.locals ≤ rm_Mo_lies.locals := by decide
set_option maxHeartbeats 4000000 in
set_option maxRecDepth 100000 in
theorem k_Mo_lies_b0 {p : Program} {l : Launch} {e : Env} {s : State} {m : MethodId} {args : Array Value} {below : List Frame} {meth : Method} {c : Code} {dC : Nat → ClassId} {dI : Nat → Nat → Nat} {cy : Nat → ClassId} {o0 : Nat} {a0 : Nat → Nat} {N : Nat} {y : Int32} (C0 : zCx p s m args meth c cX11_lies 2 (some .int) RX11 (dC, dI) cy) (s0 : zSt) (v1 : Int32) (hP : va_P (dC, dI) vwCl (wd_Mo_lies cy o0 a0 (zI s0) (zL s0) (zA s0 57)) s.heap) (hf : Mo_lies_b0 N s0 v1 = some y) (ls : Array Slot) (hl : lv_has ls 2 [(0, .ref o0), (1, .int v1)]) : W p l e rm_Mo_lies s m args below meth c s.heap [] 0 0 (MQ below (zSi y) args s 0 0 (fun _ => False)) (F0 m 0 ls []) := by
  obtain ⟨hx, hb, hr, hml, hown, hT, hk, hK⟩ := id C0
  refine lv_iload_n hx hb dX11_lies_0 rfl (lv_at hl 1 rfl) ?_
  refine lv_iconst (v := 0) hx hb dX11_lies_1 (by decide) ?_
  refine lv_aload_n hx hb dX11_lies_2 rfl (lv_at hl 0 rfl) ?_
  refine zget (v := .int (zI s0 58)) hx hb hown hT hK hP inX11 rfl smX11 0 rfl 58 (by decide) tb_1060 rfl dX11_lies_3 ?_
  refine lv_iconst (v := 1) hx hb dX11_lies_6 (by decide) ?_
  refine lv_isub hx hb dX11_lies_7 ?_
  obtain ⟨z1, hc2, hf⟩ := zbd_some hf
  refine zri (zS (As := [.int v1, .int 0, .int ((zI s0 58) - 1)]) hx hb hml hown hT hl.1 (c_Mo_isIn v1 0 ((zI s0 58) - 1) hc2) zY_Mo_isIn tb_1319 (zpS hK hP [] rfl) rm_ok_Mo_lies_Mo_isIn rfl rfl (Nat.le_of_ble_eq_true rfl) dX11_lies_8 ⟨Nat.zero_le _, Nat.zero_le _⟩) ?_
  refine lv_if_eq (tgt := 23) hx hb dX11_lies_11 (by decide) (fun hb_3 => ?_) (fun hb_3 => ?_)
  · have hf := zif_t hb_3 hf
    refine lv_iconst (v := (-1)) hx hb dX11_lies_23 (by decide) ?_
    cases hf
    exact zeri hx hb hr hk dX11_lies_24
  · have hf := zif_f hb_3 hf
    refine lv_aload_n hx hb dX11_lies_14 rfl (lv_at hl 0 rfl) ?_
    refine zget (v := .ref (a0 57)) hx hb hown hT hK hP inX11 rfl smX11 0 rfl 57 (by decide) tb_1059 rfl dX11_lies_15 ?_
    refine lv_iload_n hx hb dX11_lies_18 rfl (lv_at hl 1 rfl) ?_
    obtain ⟨hi4, hf⟩ := zck_some hf
    refine va_iald hx hb hK.1 hP 1 0 rfl rfl hi4 dX11_lies_19 ?_
    refine lv_goto (tgt := 24) hx hb dX11_lies_20 (by decide) ?_
    cases hf
    exact zeri hx hb hr hk dX11_lies_24
set_option maxHeartbeats 4000000 in
set_option maxRecDepth 100000 in
theorem c_Mo_lies {l : Launch} {dC : Nat → ClassId} {dI : Nat → Nat → Nat} {cy : Nat → ClassId} {N : Nat} (o0 : Nat) (a0 : Nat → Nat) (s0 : zSt) (v1 : Int32) {y : Int32} (hf : Mo_lies N s0 v1 = some y) : Met l yX11_lies (.code yX11_lies cX11_lies 2 (some .int) :: zt) rm_Mo_lies (va_Pc [.ref o0, .int v1] (zRd (dC, dI) cy (wd_Mo_lies cy o0 a0 (zI s0) (zL s0) (zA s0 57)))) (zSi y) 0 0 (fun _ => False) :=
  zentR (by decide +kernel) (Nat.le_of_ble_eq_true rfl) (fun p e s m below meth c C0 hP ls hl => k_Mo_lies_b0 C0 s0 v1 hP hf ls hl)
