def wd_Valley_hasBeast (cy : Nat → ClassId) (o0 : Nat) (a0 : Nat → Nat) (g0 : Nat → Int32) (h0 : Nat → Int64) (x0_5 : Nat → Int32) (x0_6 : Nat → Int32) : va_W := [(o0, .inr (9, fs_Valley a0 g0 h0)), (a0 5, .inl (cy 0, 11, .inl x0_5)), (a0 6, .inl (cy 0, 11, .inl x0_6))]
def rm_Valley_hasBeast : Room := { frames := 2, cells := 0, slots := 0, locals := 61 }
theorem rm_ok_Valley_hasBeast_Valley_isBeast : rm_Valley_isBeast.cells = 0 ∧ rm_Valley_isBeast.slots = 0 ∧ rm_Valley_isBeast.frames + 1 ≤ rm_Valley_hasBeast.frames ∧ 8 + (2 + 11) + rm_Valley_isBeast.locals ≤ rm_Valley_hasBeast.locals := by decide
set_option maxHeartbeats 4000000 in
set_option maxRecDepth 100000 in
theorem k_Valley_hasBeast_b40 {p : Program} {l : Launch} {e : Env} {s : State} {m : MethodId} {args : Array Value} {below : List Frame} {meth : Method} {c : Code} {dC : Nat → ClassId} {dI : Nat → Nat → Nat} {cy : Nat → ClassId} {o0 : Nat} {a0 : Nat → Nat} {N : Nat} {kh2 : Int32 → Option (Int32)} {y : Int32} (C0 : zCx p s m args meth c cX9_hasBeast 4 (some .boolean) RX9 (dC, dI) cy) (s0 : zSt) (v1 : Int32) (v2 : Int32) (v3 : Int32) (hk2 : ∀ (v3 : Int32) (_ : kh2 v3 = some y) (ls : Array Slot) (_ : lv_has ls 4 [(0, .ref o0), (1, .int v1), (2, .int v2), (3, .int v3)]), W p l e rm_Valley_hasBeast s m args below meth c s.heap [] 0 0 (MQ below (zSi y) args s 0 0 (fun _ => False)) (F0 m 2 ls [])) (hP : va_P (dC, dI) vwCl (wd_Valley_hasBeast cy o0 a0 (zI s0) (zL s0) (zA s0 5) (zA s0 6)) s.heap) (hf : Valley_hasBeast_b40 N kh2 s0 v1 v2 v3 = some y) (ls : Array Slot) (hl : lv_has ls 4 [(0, .ref o0), (1, .int v1), (2, .int v2), (3, .int v3)]) : W p l e rm_Valley_hasBeast s m args below meth c s.heap [] 0 0 (MQ below (zSi y) args s 0 0 (fun _ => False)) (F0 m 40 ls []) := by
  obtain ⟨hx, hb, hr, hml, hown, hT, hk, hK⟩ := id C0
  refine lv_iinc (v := v3 + 1) (lv' := [(3, .int (v3 + 1)), (0, .ref o0), (1, .int v1), (2, .int v2)]) hx hb dX9_hasBeast_40 hl (k := 3) rfl rfl (by decide) rfl (fun ls hl => ?_)
  refine lv_goto (tgt := 2) hx hb dX9_hasBeast_43 (by decide) ?_
  exact hk2 (v3 + 1) hf _ (lv_sub hl [1, 2, 3, 0] rfl)
set_option maxHeartbeats 4000000 in
set_option maxRecDepth 100000 in
theorem k_Valley_hasBeast_b2 {p : Program} {l : Launch} {e : Env} {s : State} {m : MethodId} {args : Array Value} {below : List Frame} {meth : Method} {c : Code} {dC : Nat → ClassId} {dI : Nat → Nat → Nat} {cy : Nat → ClassId} {o0 : Nat} {a0 : Nat → Nat} {N : Nat} {kh2 : Int32 → Option (Int32)} {y : Int32} (C0 : zCx p s m args meth c cX9_hasBeast 4 (some .boolean) RX9 (dC, dI) cy) (s0 : zSt) (v1 : Int32) (v2 : Int32) (v3 : Int32) (hk2 : ∀ (v3 : Int32) (_ : kh2 v3 = some y) (ls : Array Slot) (_ : lv_has ls 4 [(0, .ref o0), (1, .int v1), (2, .int v2), (3, .int v3)]), W p l e rm_Valley_hasBeast s m args below meth c s.heap [] 0 0 (MQ below (zSi y) args s 0 0 (fun _ => False)) (F0 m 2 ls [])) (hP : va_P (dC, dI) vwCl (wd_Valley_hasBeast cy o0 a0 (zI s0) (zL s0) (zA s0 5) (zA s0 6)) s.heap) (hf : Valley_hasBeast_b2 N kh2 s0 v1 v2 v3 = some y) (ls : Array Slot) (hl : lv_has ls 4 [(0, .ref o0), (1, .int v1), (2, .int v2), (3, .int v3)]) : W p l e rm_Valley_hasBeast s m args below meth c s.heap [] 0 0 (MQ below (zSi y) args s 0 0 (fun _ => False)) (F0 m 2 ls []) := by
  obtain ⟨hx, hb, hr, hml, hown, hT, hk, hK⟩ := id C0
  refine lv_iload_n hx hb dX9_hasBeast_2 rfl (lv_at hl 3 rfl) ?_
  refine lv_aload_n hx hb dX9_hasBeast_3 rfl (lv_at hl 0 rfl) ?_
  refine zget (v := .int (zI s0 3)) hx hb hown hT hK hP inX9 rfl smX9 0 rfl 3 (by decide) tb_101 rfl dX9_hasBeast_4 ?_
  refine lv_icmp_ge (tgt := 46) hx hb dX9_hasBeast_7 (by decide) (fun hb_1 => ?_) (fun hb_1 => ?_)
  · have hf := zif_t hb_1 hf
    refine lv_iconst (v := 0) hx hb dX9_hasBeast_46 (by decide) ?_
    cases hf
    exact zerz hx hb hr hk (Or.inl rfl) dX9_hasBeast_47
  · have hf := zif_f hb_1 hf
    refine lv_aload_n hx hb dX9_hasBeast_10 rfl (lv_at hl 0 rfl) ?_
    refine lv_iload_n hx hb dX9_hasBeast_11 rfl (lv_at hl 3 rfl) ?_
    obtain ⟨z2, hc3, hf⟩ := zbd_some hf
    refine zri (zV (As := [.int v3]) hx hb hml hown hT hl.1 (c_Valley_isBeast o0 a0 s0 v3 hc3) zY_Valley_isBeast tb_965 (zpR hK hP [0] rfl 0 9 rfl rfl rfl) rm_ok_Valley_hasBeast_Valley_isBeast rfl rfl (Nat.le_of_ble_eq_true rfl) dX9_hasBeast_12 ⟨Nat.zero_le _, Nat.zero_le _⟩) ?_
    refine lv_if_eq (tgt := 40) hx hb dX9_hasBeast_15 (by decide) (fun hb_4 => ?_) (fun hb_4 => ?_)
    · have hf := zif_t hb_4 hf
      exact k_Valley_hasBeast_b40 C0 s0 v1 v2 v3 hk2 hP hf _ (lv_sub hl [0, 1, 2, 3] rfl)
    · have hf := zif_f hb_4 hf
      refine lv_aload_n hx hb dX9_hasBeast_18 rfl (lv_at hl 0 rfl) ?_
      refine zget (v := .ref (a0 5)) hx hb hown hT hK hP inX9 rfl smX9 0 rfl 5 (by decide) tb_110 rfl dX9_hasBeast_19 ?_
      refine lv_iload_n hx hb dX9_hasBeast_22 rfl (lv_at hl 3 rfl) ?_
      obtain ⟨hi5, hf⟩ := zck_some hf
      refine va_iald hx hb hK.1 hP 1 0 rfl rfl hi5 dX9_hasBeast_23 ?_
      refine lv_iload_n hx hb dX9_hasBeast_24 rfl (lv_at hl 1 rfl) ?_
      refine lv_icmp_ne (tgt := 40) hx hb dX9_hasBeast_25 (by decide) (fun hb_6 => ?_) (fun hb_6 => ?_)
      · have hf := zif_f hb_6 hf
        exact k_Valley_hasBeast_b40 C0 s0 v1 v2 v3 hk2 hP hf _ (lv_sub hl [0, 1, 2, 3] rfl)
      · have hf := zif_t hb_6 hf
        refine lv_aload_n hx hb dX9_hasBeast_28 rfl (lv_at hl 0 rfl) ?_
        refine zget (v := .ref (a0 6)) hx hb hown hT hK hP inX9 rfl smX9 0 rfl 6 (by decide) tb_114 rfl dX9_hasBeast_29 ?_
        refine lv_iload_n hx hb dX9_hasBeast_32 rfl (lv_at hl 3 rfl) ?_
        obtain ⟨hi7, hf⟩ := zck_some hf
        refine va_iald hx hb hK.1 hP 2 0 rfl rfl hi7 dX9_hasBeast_33 ?_
        refine lv_iload_n hx hb dX9_hasBeast_34 rfl (lv_at hl 2 rfl) ?_
        refine lv_icmp_ne (tgt := 40) hx hb dX9_hasBeast_35 (by decide) (fun hb_8 => ?_) (fun hb_8 => ?_)
        · have hf := zif_f hb_8 hf
          exact k_Valley_hasBeast_b40 C0 s0 v1 v2 v3 hk2 hP hf _ (lv_sub hl [0, 1, 2, 3] rfl)
        · have hf := zif_t hb_8 hf
          refine lv_iconst (v := 1) hx hb dX9_hasBeast_38 (by decide) ?_
          cases hf
          exact zerz hx hb hr hk (Or.inr rfl) dX9_hasBeast_39
set_option maxHeartbeats 4000000 in
set_option maxRecDepth 100000 in
theorem k_Valley_hasBeast_h2 {p : Program} {l : Launch} {e : Env} {s : State} {m : MethodId} {args : Array Value} {below : List Frame} {meth : Method} {c : Code} {dC : Nat → ClassId} {dI : Nat → Nat → Nat} {cy : Nat → ClassId} {o0 : Nat} {a0 : Nat → Nat} {N : Nat} {y : Int32} (C0 : zCx p s m args meth c cX9_hasBeast 4 (some .boolean) RX9 (dC, dI) cy) (s0 : zSt) (v1 : Int32) (v2 : Int32) (hP : va_P (dC, dI) vwCl (wd_Valley_hasBeast cy o0 a0 (zI s0) (zL s0) (zA s0 5) (zA s0 6)) s.heap) : ∀ (n : Nat) (v3 : Int32) (hf : Valley_hasBeast_h2 N s0 v1 v2 n v3 = some y) (ls : Array Slot) (hl : lv_has ls 4 [(0, .ref o0), (1, .int v1), (2, .int v2), (3, .int v3)]), W p l e rm_Valley_hasBeast s m args below meth c s.heap [] 0 0 (MQ below (zSi y) args s 0 0 (fun _ => False)) (F0 m 2 ls []) := by
  intro n
  induction n with
  | zero => intro v3 hf; cases hf
  | succ n ih =>
    intro v3 hf ls hl
    have hf : Valley_hasBeast_b2 N (Valley_hasBeast_h2 N s0 v1 v2 n) s0 v1 v2 v3 = some y := hf
    exact k_Valley_hasBeast_b2 C0 s0 v1 v2 v3 (fun v3 hf ls hl => ih v3 hf ls hl) hP hf ls hl
set_option maxHeartbeats 4000000 in
set_option maxRecDepth 100000 in
theorem k_Valley_hasBeast_b0 {p : Program} {l : Launch} {e : Env} {s : State} {m : MethodId} {args : Array Value} {below : List Frame} {meth : Method} {c : Code} {dC : Nat → ClassId} {dI : Nat → Nat → Nat} {cy : Nat → ClassId} {o0 : Nat} {a0 : Nat → Nat} {N : Nat} {y : Int32} (C0 : zCx p s m args meth c cX9_hasBeast 4 (some .boolean) RX9 (dC, dI) cy) (s0 : zSt) (v1 : Int32) (v2 : Int32) (hP : va_P (dC, dI) vwCl (wd_Valley_hasBeast cy o0 a0 (zI s0) (zL s0) (zA s0 5) (zA s0 6)) s.heap) (hf : Valley_hasBeast_b0 N s0 v1 v2 = some y) (ls : Array Slot) (hl : lv_has ls 4 [(0, .ref o0), (1, .int v1), (2, .int v2)]) : W p l e rm_Valley_hasBeast s m args below meth c s.heap [] 0 0 (MQ below (zSi y) args s 0 0 (fun _ => False)) (F0 m 0 ls []) := by
  obtain ⟨hx, hb, hr, hml, hown, hT, hk, hK⟩ := id C0
  refine lv_iconst (v := 0) hx hb dX9_hasBeast_0 (by decide) ?_
  refine lv_istore_n (lv' := [(3, .int 0), (0, .ref o0), (1, .int v1), (2, .int v2)]) hx hb dX9_hasBeast_1 rfl hl (by decide) rfl (fun ls hl => ?_)
  exact k_Valley_hasBeast_h2 C0 s0 v1 v2  hP N 0 hf _ (lv_sub hl [1, 2, 3, 0] rfl)
set_option maxHeartbeats 4000000 in
set_option maxRecDepth 100000 in
theorem c_Valley_hasBeast {l : Launch} {dC : Nat → ClassId} {dI : Nat → Nat → Nat} {cy : Nat → ClassId} {N : Nat} (o0 : Nat) (a0 : Nat → Nat) (s0 : zSt) (v1 : Int32) (v2 : Int32) {y : Int32} (hf : Valley_hasBeast N s0 v1 v2 = some y) : Met l yX9_hasBeast (.code yX9_hasBeast cX9_hasBeast 4 (some .boolean) :: zt) rm_Valley_hasBeast (va_Pc [.ref o0, .int v1, .int v2] (zRd (dC, dI) cy (wd_Valley_hasBeast cy o0 a0 (zI s0) (zL s0) (zA s0 5) (zA s0 6)))) (zSi y) 0 0 (fun _ => False) :=
  zentR (by decide +kernel) (Nat.le_of_ble_eq_true rfl) (fun p e s m below meth c C0 hP ls hl => k_Valley_hasBeast_b0 C0 s0 v1 v2 hP hf ls hl)
def wd_Valley_eachIsKnown (cy : Nat → ClassId) (o0 : Nat) (a0 : Nat → Nat) (g0 : Nat → Int32) (h0 : Nat → Int64) (x0_5 : Nat → Int32) (x0_6 : Nat → Int32) : va_W := [(o0, .inr (9, fs_Valley a0 g0 h0)), (a0 5, .inl (cy 0, 11, .inl x0_5)), (a0 6, .inl (cy 0, 11, .inl x0_6))]
def rm_Valley_eachIsKnown : Room := { frames := 2, cells := 0, slots := 0, locals := 61 }
theorem rm_ok_Valley_eachIsKnown_Valley_isBeast : rm_Valley_isBeast.cells = 0 ∧ rm_Valley_isBeast.slots = 0 ∧ rm_Valley_isBeast.frames + 1 ≤ rm_Valley_eachIsKnown.frames ∧ 8 + (2 + 11) + rm_Valley_isBeast.locals ≤ rm_Valley_eachIsKnown.locals := by decide
set_option maxHeartbeats 4000000 in
set_option maxRecDepth 100000 in
theorem k_Valley_eachIsKnown_b75 {p : Program} {l : Launch} {e : Env} {s : State} {m : MethodId} {args : Array Value} {below : List Frame} {meth : Method} {c : Code} {dC : Nat → ClassId} {dI : Nat → Nat → Nat} {cy : Nat → ClassId} {o0 : Nat} {a0 : Nat → Nat} {N : Nat} {kh2 : Int32 → Option (Int32)} {kh12 : Int32 → Option (Int32)} {y : Int32} (C0 : zCx p s m args meth c cX9_eachIsKnown 4 (some .boolean) RX9 (dC, dI) cy) (s0 : zSt) (v1 : Int32) (v2 : Int32) (hk2 : ∀ (v1 : Int32) (_ : kh2 v1 = some y) (ls : Array Slot) (_ : lv_has ls 4 [(0, .ref o0), (1, .int v1)]), W p l e rm_Valley_eachIsKnown s m args below meth c s.heap [] 0 0 (MQ below (zSi y) args s 0 0 (fun _ => False)) (F0 m 2 ls [])) (hk12 : ∀ (v2 : Int32) (_ : kh12 v2 = some y) (ls : Array Slot) (_ : lv_has ls 4 [(0, .ref o0), (1, .int v1), (2, .int v2)]), W p l e rm_Valley_eachIsKnown s m args below meth c s.heap [] 0 0 (MQ below (zSi y) args s 0 0 (fun _ => False)) (F0 m 12 ls [])) (hP : va_P (dC, dI) vwCl (wd_Valley_eachIsKnown cy o0 a0 (zI s0) (zL s0) (zA s0 5) (zA s0 6)) s.heap) (hf : Valley_eachIsKnown_b75 N kh2 kh12 s0 v1 v2 = some y) (ls : Array Slot) (hl : lv_has ls 4 [(0, .ref o0), (1, .int v1), (2, .int v2)]) : W p l e rm_Valley_eachIsKnown s m args below meth c s.heap [] 0 0 (MQ below (zSi y) args s 0 0 (fun _ => False)) (F0 m 75 ls []) := by
  obtain ⟨hx, hb, hr, hml, hown, hT, hk, hK⟩ := id C0
  refine lv_iinc (v := v2 + 1) (lv' := [(2, .int (v2 + 1)), (0, .ref o0), (1, .int v1)]) hx hb dX9_eachIsKnown_75 hl (k := 2) rfl rfl (by decide) rfl (fun ls hl => ?_)
  refine lv_goto (tgt := 12) hx hb dX9_eachIsKnown_78 (by decide) ?_
  exact hk12 (v2 + 1) hf _ (lv_sub hl [1, 2, 0] rfl)
set_option maxHeartbeats 4000000 in
set_option maxRecDepth 100000 in
theorem k_Valley_eachIsKnown_b38 {p : Program} {l : Launch} {e : Env} {s : State} {m : MethodId} {args : Array Value} {below : List Frame} {meth : Method} {c : Code} {dC : Nat → ClassId} {dI : Nat → Nat → Nat} {cy : Nat → ClassId} {o0 : Nat} {a0 : Nat → Nat} {N : Nat} {kh2 : Int32 → Option (Int32)} {kh12 : Int32 → Option (Int32)} {y : Int32} (C0 : zCx p s m args meth c cX9_eachIsKnown 4 (some .boolean) RX9 (dC, dI) cy) (s0 : zSt) (v1 : Int32) (v2 : Int32) (t0 : Int32) (hk2 : ∀ (v1 : Int32) (_ : kh2 v1 = some y) (ls : Array Slot) (_ : lv_has ls 4 [(0, .ref o0), (1, .int v1)]), W p l e rm_Valley_eachIsKnown s m args below meth c s.heap [] 0 0 (MQ below (zSi y) args s 0 0 (fun _ => False)) (F0 m 2 ls [])) (hk12 : ∀ (v2 : Int32) (_ : kh12 v2 = some y) (ls : Array Slot) (_ : lv_has ls 4 [(0, .ref o0), (1, .int v1), (2, .int v2)]), W p l e rm_Valley_eachIsKnown s m args below meth c s.heap [] 0 0 (MQ below (zSi y) args s 0 0 (fun _ => False)) (F0 m 12 ls [])) (hP : va_P (dC, dI) vwCl (wd_Valley_eachIsKnown cy o0 a0 (zI s0) (zL s0) (zA s0 5) (zA s0 6)) s.heap) (hf : Valley_eachIsKnown_b38 N kh2 kh12 s0 v1 v2 t0 = some y) (ls : Array Slot) (hl : lv_has ls 4 [(0, .ref o0), (1, .int v1), (2, .int v2)]) : W p l e rm_Valley_eachIsKnown s m args below meth c s.heap [] 0 0 (MQ below (zSi y) args s 0 0 (fun _ => False)) (F0 m 38 ls [.int t0]) := by
  obtain ⟨hx, hb, hr, hml, hown, hT, hk, hK⟩ := id C0
  refine lv_istore_n (lv' := [(3, .int t0), (0, .ref o0), (1, .int v1), (2, .int v2)]) hx hb dX9_eachIsKnown_38 rfl hl (by decide) rfl (fun ls hl => ?_)
  refine lv_iload_n hx hb dX9_eachIsKnown_39 rfl (lv_at hl 0 rfl) ?_
  refine lv_if_eq (tgt := 75) hx hb dX9_eachIsKnown_40 (by decide) (fun hb_1 => ?_) (fun hb_1 => ?_)
  · have hf := zif_t hb_1 hf
    exact k_Valley_eachIsKnown_b75 C0 s0 v1 v2 hk2 hk12 hP hf _ (lv_sub hl [1, 2, 3] rfl)
  · have hf := zif_f hb_1 hf
    refine lv_aload_n hx hb dX9_eachIsKnown_43 rfl (lv_at hl 1 rfl) ?_
    refine zget (v := .ref (a0 5)) hx hb hown hT hK hP inX9 rfl smX9 0 rfl 5 (by decide) tb_110 rfl dX9_eachIsKnown_44 ?_
    refine lv_iload_n hx hb dX9_eachIsKnown_47 rfl (lv_at hl 2 rfl) ?_
    obtain ⟨hi2, hf⟩ := zck_some hf
    refine va_iald hx hb hK.1 hP 1 0 rfl rfl hi2 dX9_eachIsKnown_48 ?_
    refine lv_aload_n hx hb dX9_eachIsKnown_49 rfl (lv_at hl 1 rfl) ?_
    refine zget (v := .ref (a0 5)) hx hb hown hT hK hP inX9 rfl smX9 0 rfl 5 (by decide) tb_110 rfl dX9_eachIsKnown_50 ?_
    refine lv_iload_n hx hb dX9_eachIsKnown_53 rfl (lv_at hl 3 rfl) ?_
    obtain ⟨hi3, hf⟩ := zck_some hf
    refine va_iald hx hb hK.1 hP 1 0 rfl rfl hi3 dX9_eachIsKnown_54 ?_
    refine lv_icmp_ne (tgt := 75) hx hb dX9_eachIsKnown_55 (by decide) (fun hb_4 => ?_) (fun hb_4 => ?_)
    · have hf := zif_f hb_4 hf
      exact k_Valley_eachIsKnown_b75 C0 s0 v1 v2 hk2 hk12 hP hf _ (lv_sub hl [1, 2, 3] rfl)
    · have hf := zif_t hb_4 hf
      refine lv_aload_n hx hb dX9_eachIsKnown_58 rfl (lv_at hl 1 rfl) ?_
      refine zget (v := .ref (a0 6)) hx hb hown hT hK hP inX9 rfl smX9 0 rfl 6 (by decide) tb_114 rfl dX9_eachIsKnown_59 ?_
      refine lv_iload_n hx hb dX9_eachIsKnown_62 rfl (lv_at hl 2 rfl) ?_
      obtain ⟨hi5, hf⟩ := zck_some hf
      refine va_iald hx hb hK.1 hP 2 0 rfl rfl hi5 dX9_eachIsKnown_63 ?_
      refine lv_aload_n hx hb dX9_eachIsKnown_64 rfl (lv_at hl 1 rfl) ?_
      refine zget (v := .ref (a0 6)) hx hb hown hT hK hP inX9 rfl smX9 0 rfl 6 (by decide) tb_114 rfl dX9_eachIsKnown_65 ?_
      refine lv_iload_n hx hb dX9_eachIsKnown_68 rfl (lv_at hl 3 rfl) ?_
      obtain ⟨hi6, hf⟩ := zck_some hf
      refine va_iald hx hb hK.1 hP 2 0 rfl rfl hi6 dX9_eachIsKnown_69 ?_
      refine lv_icmp_ne (tgt := 75) hx hb dX9_eachIsKnown_70 (by decide) (fun hb_7 => ?_) (fun hb_7 => ?_)
      · have hf := zif_f hb_7 hf
        exact k_Valley_eachIsKnown_b75 C0 s0 v1 v2 hk2 hk12 hP hf _ (lv_sub hl [1, 2, 3] rfl)
      · have hf := zif_t hb_7 hf
        refine lv_iconst (v := 0) hx hb dX9_eachIsKnown_73 (by decide) ?_
        cases hf
        exact zerz hx hb hr hk (Or.inl rfl) dX9_eachIsKnown_74
set_option maxHeartbeats 4000000 in
set_option maxRecDepth 100000 in
theorem k_Valley_eachIsKnown_b37 {p : Program} {l : Launch} {e : Env} {s : State} {m : MethodId} {args : Array Value} {below : List Frame} {meth : Method} {c : Code} {dC : Nat → ClassId} {dI : Nat → Nat → Nat} {cy : Nat → ClassId} {o0 : Nat} {a0 : Nat → Nat} {N : Nat} {kh2 : Int32 → Option (Int32)} {kh12 : Int32 → Option (Int32)} {y : Int32} (C0 : zCx p s m args meth c cX9_eachIsKnown 4 (some .boolean) RX9 (dC, dI) cy) (s0 : zSt) (v1 : Int32) (v2 : Int32) (hk2 : ∀ (v1 : Int32) (_ : kh2 v1 = some y) (ls : Array Slot) (_ : lv_has ls 4 [(0, .ref o0), (1, .int v1)]), W p l e rm_Valley_eachIsKnown s m args below meth c s.heap [] 0 0 (MQ below (zSi y) args s 0 0 (fun _ => False)) (F0 m 2 ls [])) (hk12 : ∀ (v2 : Int32) (_ : kh12 v2 = some y) (ls : Array Slot) (_ : lv_has ls 4 [(0, .ref o0), (1, .int v1), (2, .int v2)]), W p l e rm_Valley_eachIsKnown s m args below meth c s.heap [] 0 0 (MQ below (zSi y) args s 0 0 (fun _ => False)) (F0 m 12 ls [])) (hP : va_P (dC, dI) vwCl (wd_Valley_eachIsKnown cy o0 a0 (zI s0) (zL s0) (zA s0 5) (zA s0 6)) s.heap) (hf : Valley_eachIsKnown_b37 N kh2 kh12 s0 v1 v2 = some y) (ls : Array Slot) (hl : lv_has ls 4 [(0, .ref o0), (1, .int v1), (2, .int v2)]) : W p l e rm_Valley_eachIsKnown s m args below meth c s.heap [] 0 0 (MQ below (zSi y) args s 0 0 (fun _ => False)) (F0 m 37 ls []) := by
  obtain ⟨hx, hb, hr, hml, hown, hT, hk, hK⟩ := id C0
  refine lv_iconst (v := 0) hx hb dX9_eachIsKnown_37 (by decide) ?_
  exact k_Valley_eachIsKnown_b38 C0 s0 v1 v2 0 hk2 hk12 hP hf _ (lv_sub hl [0, 1, 2] rfl)
set_option maxHeartbeats 4000000 in
set_option maxRecDepth 100000 in
theorem k_Valley_eachIsKnown_b12 {p : Program} {l : Launch} {e : Env} {s : State} {m : MethodId} {args : Array Value} {below : List Frame} {meth : Method} {c : Code} {dC : Nat → ClassId} {dI : Nat → Nat → Nat} {cy : Nat → ClassId} {o0 : Nat} {a0 : Nat → Nat} {N : Nat} {kh2 : Int32 → Option (Int32)} {kh12 : Int32 → Option (Int32)} {y : Int32} (C0 : zCx p s m args meth c cX9_eachIsKnown 4 (some .boolean) RX9 (dC, dI) cy) (s0 : zSt) (v1 : Int32) (v2 : Int32) (hk2 : ∀ (v1 : Int32) (_ : kh2 v1 = some y) (ls : Array Slot) (_ : lv_has ls 4 [(0, .ref o0), (1, .int v1)]), W p l e rm_Valley_eachIsKnown s m args below meth c s.heap [] 0 0 (MQ below (zSi y) args s 0 0 (fun _ => False)) (F0 m 2 ls [])) (hk12 : ∀ (v2 : Int32) (_ : kh12 v2 = some y) (ls : Array Slot) (_ : lv_has ls 4 [(0, .ref o0), (1, .int v1), (2, .int v2)]), W p l e rm_Valley_eachIsKnown s m args below meth c s.heap [] 0 0 (MQ below (zSi y) args s 0 0 (fun _ => False)) (F0 m 12 ls [])) (hP : va_P (dC, dI) vwCl (wd_Valley_eachIsKnown cy o0 a0 (zI s0) (zL s0) (zA s0 5) (zA s0 6)) s.heap) (hf : Valley_eachIsKnown_b12 N kh2 kh12 s0 v1 v2 = some y) (ls : Array Slot) (hl : lv_has ls 4 [(0, .ref o0), (1, .int v1), (2, .int v2)]) : W p l e rm_Valley_eachIsKnown s m args below meth c s.heap [] 0 0 (MQ below (zSi y) args s 0 0 (fun _ => False)) (F0 m 12 ls []) := by
  obtain ⟨hx, hb, hr, hml, hown, hT, hk, hK⟩ := id C0
  refine lv_iload_n hx hb dX9_eachIsKnown_12 rfl (lv_at hl 2 rfl) ?_
  refine lv_iload_n hx hb dX9_eachIsKnown_13 rfl (lv_at hl 1 rfl) ?_
  refine lv_icmp_ge (tgt := 81) hx hb dX9_eachIsKnown_14 (by decide) (fun hb_1 => ?_) (fun hb_1 => ?_)
  · have hf := zif_t hb_1 hf
    refine lv_iinc (v := v1 + 1) (lv' := [(1, .int (v1 + 1)), (0, .ref o0), (2, .int v2)]) hx hb dX9_eachIsKnown_81 hl (k := 1) rfl rfl (by decide) rfl (fun ls hl => ?_)
    refine lv_goto (tgt := 2) hx hb dX9_eachIsKnown_84 (by decide) ?_
    exact hk2 (v1 + 1) hf _ (lv_sub hl [1, 0] rfl)
  · have hf := zif_f hb_1 hf
    refine lv_aload_n hx hb dX9_eachIsKnown_17 rfl (lv_at hl 0 rfl) ?_
    refine lv_iload_n hx hb dX9_eachIsKnown_18 rfl (lv_at hl 1 rfl) ?_
    obtain ⟨z2, hc3, hf⟩ := zbd_some hf
    refine zri (zV (As := [.int v1]) hx hb hml hown hT hl.1 (c_Valley_isBeast o0 a0 s0 v1 hc3) zY_Valley_isBeast tb_965 (zpR hK hP [0] rfl 0 9 rfl rfl rfl) rm_ok_Valley_eachIsKnown_Valley_isBeast rfl rfl (Nat.le_of_ble_eq_true rfl) dX9_eachIsKnown_19 ⟨Nat.zero_le _, Nat.zero_le _⟩) ?_
    refine lv_if_eq (tgt := 37) hx hb dX9_eachIsKnown_22 (by decide) (fun hb_4 => ?_) (fun hb_4 => ?_)
    · have hf := zif_t hb_4 hf
      exact k_Valley_eachIsKnown_b37 C0 s0 v1 v2 hk2 hk12 hP hf _ (lv_sub hl [0, 1, 2] rfl)
    · have hf := zif_f hb_4 hf
      refine lv_aload_n hx hb dX9_eachIsKnown_25 rfl (lv_at hl 0 rfl) ?_
      refine lv_iload_n hx hb dX9_eachIsKnown_26 rfl (lv_at hl 2 rfl) ?_
      obtain ⟨z5, hc6, hf⟩ := zbd_some hf
      refine zri (zV (As := [.int v2]) hx hb hml hown hT hl.1 (c_Valley_isBeast o0 a0 s0 v2 hc6) zY_Valley_isBeast tb_965 (zpR hK hP [0] rfl 0 9 rfl rfl rfl) rm_ok_Valley_eachIsKnown_Valley_isBeast rfl rfl (Nat.le_of_ble_eq_true rfl) dX9_eachIsKnown_27 ⟨Nat.zero_le _, Nat.zero_le _⟩) ?_
      refine lv_if_eq (tgt := 37) hx hb dX9_eachIsKnown_30 (by decide) (fun hb_7 => ?_) (fun hb_7 => ?_)
      · have hf := zif_t hb_7 hf
        exact k_Valley_eachIsKnown_b37 C0 s0 v1 v2 hk2 hk12 hP hf _ (lv_sub hl [0, 1, 2] rfl)
      · have hf := zif_f hb_7 hf
        refine lv_iconst (v := 1) hx hb dX9_eachIsKnown_33 (by decide) ?_
        refine lv_goto (tgt := 38) hx hb dX9_eachIsKnown_34 (by decide) ?_
        exact k_Valley_eachIsKnown_b38 C0 s0 v1 v2 1 hk2 hk12 hP hf _ (lv_sub hl [0, 1, 2] rfl)
set_option maxHeartbeats 4000000 in
set_option maxRecDepth 100000 in
theorem k_Valley_eachIsKnown_h12 {p : Program} {l : Launch} {e : Env} {s : State} {m : MethodId} {args : Array Value} {below : List Frame} {meth : Method} {c : Code} {dC : Nat → ClassId} {dI : Nat → Nat → Nat} {cy : Nat → ClassId} {o0 : Nat} {a0 : Nat → Nat} {N : Nat} {kh2 : Int32 → Option (Int32)} {y : Int32} (C0 : zCx p s m args meth c cX9_eachIsKnown 4 (some .boolean) RX9 (dC, dI) cy) (s0 : zSt) (v1 : Int32) (hk2 : ∀ (v1 : Int32) (_ : kh2 v1 = some y) (ls : Array Slot) (_ : lv_has ls 4 [(0, .ref o0), (1, .int v1)]), W p l e rm_Valley_eachIsKnown s m args below meth c s.heap [] 0 0 (MQ below (zSi y) args s 0 0 (fun _ => False)) (F0 m 2 ls [])) (hP : va_P (dC, dI) vwCl (wd_Valley_eachIsKnown cy o0 a0 (zI s0) (zL s0) (zA s0 5) (zA s0 6)) s.heap) : ∀ (n : Nat) (v2 : Int32) (hf : Valley_eachIsKnown_h12 N kh2 s0 v1 n v2 = some y) (ls : Array Slot) (hl : lv_has ls 4 [(0, .ref o0), (1, .int v1), (2, .int v2)]), W p l e rm_Valley_eachIsKnown s m args below meth c s.heap [] 0 0 (MQ below (zSi y) args s 0 0 (fun _ => False)) (F0 m 12 ls []) := by
  intro n
  induction n with
  | zero => intro v2 hf; cases hf
  | succ n ih =>
    intro v2 hf ls hl
    have hf : Valley_eachIsKnown_b12 N kh2 (Valley_eachIsKnown_h12 N kh2 s0 v1 n) s0 v1 v2 = some y := hf
    exact k_Valley_eachIsKnown_b12 C0 s0 v1 v2 hk2 (fun v2 hf ls hl => ih v2 hf ls hl) hP hf ls hl
set_option maxHeartbeats 4000000 in
set_option maxRecDepth 100000 in
theorem k_Valley_eachIsKnown_b2 {p : Program} {l : Launch} {e : Env} {s : State} {m : MethodId} {args : Array Value} {below : List Frame} {meth : Method} {c : Code} {dC : Nat → ClassId} {dI : Nat → Nat → Nat} {cy : Nat → ClassId} {o0 : Nat} {a0 : Nat → Nat} {N : Nat} {kh2 : Int32 → Option (Int32)} {y : Int32} (C0 : zCx p s m args meth c cX9_eachIsKnown 4 (some .boolean) RX9 (dC, dI) cy) (s0 : zSt) (v1 : Int32) (hk2 : ∀ (v1 : Int32) (_ : kh2 v1 = some y) (ls : Array Slot) (_ : lv_has ls 4 [(0, .ref o0), (1, .int v1)]), W p l e rm_Valley_eachIsKnown s m args below meth c s.heap [] 0 0 (MQ below (zSi y) args s 0 0 (fun _ => False)) (F0 m 2 ls [])) (hP : va_P (dC, dI) vwCl (wd_Valley_eachIsKnown cy o0 a0 (zI s0) (zL s0) (zA s0 5) (zA s0 6)) s.heap) (hf : Valley_eachIsKnown_b2 N kh2 s0 v1 = some y) (ls : Array Slot) (hl : lv_has ls 4 [(0, .ref o0), (1, .int v1)]) : W p l e rm_Valley_eachIsKnown s m args below meth c s.heap [] 0 0 (MQ below (zSi y) args s 0 0 (fun _ => False)) (F0 m 2 ls []) := by
  obtain ⟨hx, hb, hr, hml, hown, hT, hk, hK⟩ := id C0
  refine lv_iload_n hx hb dX9_eachIsKnown_2 rfl (lv_at hl 1 rfl) ?_
  refine lv_aload_n hx hb dX9_eachIsKnown_3 rfl (lv_at hl 0 rfl) ?_
  refine zget (v := .int (zI s0 3)) hx hb hown hT hK hP inX9 rfl smX9 0 rfl 3 (by decide) tb_101 rfl dX9_eachIsKnown_4 ?_
  refine lv_icmp_ge (tgt := 87) hx hb dX9_eachIsKnown_7 (by decide) (fun hb_1 => ?_) (fun hb_1 => ?_)
  · have hf := zif_t hb_1 hf
    refine lv_iconst (v := 1) hx hb dX9_eachIsKnown_87 (by decide) ?_
    cases hf
    exact zerz hx hb hr hk (Or.inr rfl) dX9_eachIsKnown_88
  · have hf := zif_f hb_1 hf
    refine lv_iconst (v := 0) hx hb dX9_eachIsKnown_10 (by decide) ?_
    refine lv_istore_n (lv' := [(2, .int 0), (0, .ref o0), (1, .int v1)]) hx hb dX9_eachIsKnown_11 rfl hl (by decide) rfl (fun ls hl => ?_)
    exact k_Valley_eachIsKnown_h12 C0 s0 v1 hk2 hP N 0 hf _ (lv_sub hl [1, 2, 0] rfl)
set_option maxHeartbeats 4000000 in
set_option maxRecDepth 100000 in
theorem k_Valley_eachIsKnown_h2 {p : Program} {l : Launch} {e : Env} {s : State} {m : MethodId} {args : Array Value} {below : List Frame} {meth : Method} {c : Code} {dC : Nat → ClassId} {dI : Nat → Nat → Nat} {cy : Nat → ClassId} {o0 : Nat} {a0 : Nat → Nat} {N : Nat} {y : Int32} (C0 : zCx p s m args meth c cX9_eachIsKnown 4 (some .boolean) RX9 (dC, dI) cy) (s0 : zSt) (hP : va_P (dC, dI) vwCl (wd_Valley_eachIsKnown cy o0 a0 (zI s0) (zL s0) (zA s0 5) (zA s0 6)) s.heap) : ∀ (n : Nat) (v1 : Int32) (hf : Valley_eachIsKnown_h2 N s0 n v1 = some y) (ls : Array Slot) (hl : lv_has ls 4 [(0, .ref o0), (1, .int v1)]), W p l e rm_Valley_eachIsKnown s m args below meth c s.heap [] 0 0 (MQ below (zSi y) args s 0 0 (fun _ => False)) (F0 m 2 ls []) := by
  intro n
  induction n with
  | zero => intro v1 hf; cases hf
  | succ n ih =>
    intro v1 hf ls hl
    have hf : Valley_eachIsKnown_b2 N (Valley_eachIsKnown_h2 N s0 n) s0 v1 = some y := hf
    exact k_Valley_eachIsKnown_b2 C0 s0 v1 (fun v1 hf ls hl => ih v1 hf ls hl) hP hf ls hl
set_option maxHeartbeats 4000000 in
set_option maxRecDepth 100000 in
theorem k_Valley_eachIsKnown_b0 {p : Program} {l : Launch} {e : Env} {s : State} {m : MethodId} {args : Array Value} {below : List Frame} {meth : Method} {c : Code} {dC : Nat → ClassId} {dI : Nat → Nat → Nat} {cy : Nat → ClassId} {o0 : Nat} {a0 : Nat → Nat} {N : Nat} {y : Int32} (C0 : zCx p s m args meth c cX9_eachIsKnown 4 (some .boolean) RX9 (dC, dI) cy) (s0 : zSt) (hP : va_P (dC, dI) vwCl (wd_Valley_eachIsKnown cy o0 a0 (zI s0) (zL s0) (zA s0 5) (zA s0 6)) s.heap) (hf : Valley_eachIsKnown_b0 N s0 = some y) (ls : Array Slot) (hl : lv_has ls 4 [(0, .ref o0)]) : W p l e rm_Valley_eachIsKnown s m args below meth c s.heap [] 0 0 (MQ below (zSi y) args s 0 0 (fun _ => False)) (F0 m 0 ls []) := by
  obtain ⟨hx, hb, hr, hml, hown, hT, hk, hK⟩ := id C0
  refine lv_iconst (v := 0) hx hb dX9_eachIsKnown_0 (by decide) ?_
  refine lv_istore_n (lv' := [(1, .int 0), (0, .ref o0)]) hx hb dX9_eachIsKnown_1 rfl hl (by decide) rfl (fun ls hl => ?_)
  exact k_Valley_eachIsKnown_h2 C0 s0  hP N 0 hf _ (lv_sub hl [1, 0] rfl)
set_option maxHeartbeats 4000000 in
set_option maxRecDepth 100000 in
theorem c_Valley_eachIsKnown {l : Launch} {dC : Nat → ClassId} {dI : Nat → Nat → Nat} {cy : Nat → ClassId} {N : Nat} (o0 : Nat) (a0 : Nat → Nat) (s0 : zSt) {y : Int32} (hf : Valley_eachIsKnown N s0 = some y) : Met l yX9_eachIsKnown (.code yX9_eachIsKnown cX9_eachIsKnown 4 (some .boolean) :: zt) rm_Valley_eachIsKnown (va_Pc [.ref o0] (zRd (dC, dI) cy (wd_Valley_eachIsKnown cy o0 a0 (zI s0) (zL s0) (zA s0 5) (zA s0 6)))) (zSi y) 0 0 (fun _ => False) :=
  zentR (by decide +kernel) (Nat.le_of_ble_eq_true rfl) (fun p e s m below meth c C0 hP ls hl => k_Valley_eachIsKnown_b0 C0 s0 hP hf ls hl)
def wd_Valley_withThoseBeside (cy : Nat → ClassId) (o0 : Nat) (a0 : Nat → Nat) (g0 : Nat → Int32) (h0 : Nat → Int64) (x0_10 : Nat → Int32) : va_W := [(o0, .inr (9, fs_Valley a0 g0 h0)), (a0 10, .inl (cy 0, 11, .inl x0_10))]
def rm_Valley_withThoseBeside : Room := { frames := 1, cells := 0, slots := 0, locals := 40 }
set_option maxHeartbeats 4000000 in
set_option maxRecDepth 100000 in
theorem k_Valley_withThoseBeside_b30 {p : Program} {l : Launch} {e : Env} {s : State} {m : MethodId} {args : Array Value} {below : List Frame} {meth : Method} {c : Code} {dC : Nat → ClassId} {dI : Nat → Nat → Nat} {cy : Nat → ClassId} {o0 : Nat} {a0 : Nat → Nat} {N : Nat} {kh4 : Int32 → Int32 → Option (Int32)} {y : Int32} (C0 : zCx p s m args meth c cX9_withThoseBeside 4 (some .int) RX9 (dC, dI) cy) (s0 : zSt) (v1 : Int32) (v2 : Int32) (v3 : Int32) (hk4 : ∀ (v2 : Int32) (v3 : Int32) (_ : kh4 v2 v3 = some y) (ls : Array Slot) (_ : lv_has ls 4 [(0, .ref o0), (1, .int v1), (2, .int v2), (3, .int v3)]), W p l e rm_Valley_withThoseBeside s m args below meth c s.heap [] 0 0 (MQ below (zSi y) args s 0 0 (fun _ => False)) (F0 m 4 ls [])) (hP : va_P (dC, dI) vwCl (wd_Valley_withThoseBeside cy o0 a0 (zI s0) (zL s0) (zA s0 10)) s.heap) (hf : Valley_withThoseBeside_b30 N kh4 s0 v1 v2 v3 = some y) (ls : Array Slot) (hl : lv_has ls 4 [(0, .ref o0), (1, .int v1), (2, .int v2), (3, .int v3)]) : W p l e rm_Valley_withThoseBeside s m args below meth c s.heap [] 0 0 (MQ below (zSi y) args s 0 0 (fun _ => False)) (F0 m 30 ls []) := by
  obtain ⟨hx, hb, hr, hml, hown, hT, hk, hK⟩ := id C0
  refine lv_iinc (v := v3 + 1) (lv' := [(3, .int (v3 + 1)), (0, .ref o0), (1, .int v1), (2, .int v2)]) hx hb dX9_withThoseBeside_30 hl (k := 3) rfl rfl (by decide) rfl (fun ls hl => ?_)
  refine lv_goto (tgt := 4) hx hb dX9_withThoseBeside_33 (by decide) ?_
  exact hk4 v2 (v3 + 1) hf _ (lv_sub hl [1, 2, 3, 0] rfl)
set_option maxHeartbeats 4000000 in
set_option maxRecDepth 100000 in
theorem k_Valley_withThoseBeside_b4 {p : Program} {l : Launch} {e : Env} {s : State} {m : MethodId} {args : Array Value} {below : List Frame} {meth : Method} {c : Code} {dC : Nat → ClassId} {dI : Nat → Nat → Nat} {cy : Nat → ClassId} {o0 : Nat} {a0 : Nat → Nat} {N : Nat} {kh4 : Int32 → Int32 → Option (Int32)} {y : Int32} (C0 : zCx p s m args meth c cX9_withThoseBeside 4 (some .int) RX9 (dC, dI) cy) (s0 : zSt) (v1 : Int32) (v2 : Int32) (v3 : Int32) (hk4 : ∀ (v2 : Int32) (v3 : Int32) (_ : kh4 v2 v3 = some y) (ls : Array Slot) (_ : lv_has ls 4 [(0, .ref o0), (1, .int v1), (2, .int v2), (3, .int v3)]), W p l e rm_Valley_withThoseBeside s m args below meth c s.heap [] 0 0 (MQ below (zSi y) args s 0 0 (fun _ => False)) (F0 m 4 ls [])) (hP : va_P (dC, dI) vwCl (wd_Valley_withThoseBeside cy o0 a0 (zI s0) (zL s0) (zA s0 10)) s.heap) (hf : Valley_withThoseBeside_b4 N kh4 s0 v1 v2 v3 = some y) (ls : Array Slot) (hl : lv_has ls 4 [(0, .ref o0), (1, .int v1), (2, .int v2), (3, .int v3)]) : W p l e rm_Valley_withThoseBeside s m args below meth c s.heap [] 0 0 (MQ below (zSi y) args s 0 0 (fun _ => False)) (F0 m 4 ls []) := by
  obtain ⟨hx, hb, hr, hml, hown, hT, hk, hK⟩ := id C0
  refine lv_iload_n hx hb dX9_withThoseBeside_4 rfl (lv_at hl 3 rfl) ?_
  refine lv_aload_n hx hb dX9_withThoseBeside_5 rfl (lv_at hl 0 rfl) ?_
  refine zget (v := .int (zI s0 3)) hx hb hown hT hK hP inX9 rfl smX9 0 rfl 3 (by decide) tb_101 rfl dX9_withThoseBeside_6 ?_
  refine lv_icmp_ge (tgt := 36) hx hb dX9_withThoseBeside_9 (by decide) (fun hb_1 => ?_) (fun hb_1 => ?_)
  · have hf := zif_t hb_1 hf
    refine lv_iload_n hx hb dX9_withThoseBeside_36 rfl (lv_at hl 2 rfl) ?_
    cases hf
    exact zeri hx hb hr hk dX9_withThoseBeside_37
  · have hf := zif_f hb_1 hf
    refine lv_iload_n hx hb dX9_withThoseBeside_12 rfl (lv_at hl 1 rfl) ?_
    refine lv_iload_n hx hb dX9_withThoseBeside_13 rfl (lv_at hl 3 rfl) ?_
    refine lv_ishr hx hb dX9_withThoseBeside_14 ?_
    refine lv_iconst (v := 1) hx hb dX9_withThoseBeside_15 (by decide) ?_
    refine lv_iand hx hb dX9_withThoseBeside_16 ?_
    refine lv_iconst (v := 1) hx hb dX9_withThoseBeside_17 (by decide) ?_
    refine lv_icmp_ne (tgt := 30) hx hb dX9_withThoseBeside_18 (by decide) (fun hb_2 => ?_) (fun hb_2 => ?_)
    · have hf := zif_f hb_2 hf
      exact k_Valley_withThoseBeside_b30 C0 s0 v1 v2 v3 hk4 hP hf _ (lv_sub hl [0, 1, 2, 3] rfl)
    · have hf := zif_t hb_2 hf
      refine lv_iload_n hx hb dX9_withThoseBeside_21 rfl (lv_at hl 2 rfl) ?_
      refine lv_aload_n hx hb dX9_withThoseBeside_22 rfl (lv_at hl 0 rfl) ?_
      refine zget (v := .ref (a0 10)) hx hb hown hT hK hP inX9 rfl smX9 0 rfl 10 (by decide) tb_126 rfl dX9_withThoseBeside_23 ?_
      refine lv_iload_n hx hb dX9_withThoseBeside_26 rfl (lv_at hl 3 rfl) ?_
      obtain ⟨hi3, hf⟩ := zck_some hf
      refine va_iald hx hb hK.1 hP 1 0 rfl rfl hi3 dX9_withThoseBeside_27 ?_
      refine lv_ior hx hb dX9_withThoseBeside_28 ?_
      refine lv_istore_n (lv' := [(2, .int (v2 ||| ((zA s0 10) (Int32.toNatClampNeg v3)))), (0, .ref o0), (1, .int v1), (3, .int v3)]) hx hb dX9_withThoseBeside_29 rfl hl (by decide) rfl (fun ls hl => ?_)
      exact k_Valley_withThoseBeside_b30 C0 s0 v1 (v2 ||| ((zA s0 10) (Int32.toNatClampNeg v3))) v3 hk4 hP hf _ (lv_sub hl [1, 2, 0, 3] rfl)
set_option maxHeartbeats 4000000 in
set_option maxRecDepth 100000 in
theorem k_Valley_withThoseBeside_h4 {p : Program} {l : Launch} {e : Env} {s : State} {m : MethodId} {args : Array Value} {below : List Frame} {meth : Method} {c : Code} {dC : Nat → ClassId} {dI : Nat → Nat → Nat} {cy : Nat → ClassId} {o0 : Nat} {a0 : Nat → Nat} {N : Nat} {y : Int32} (C0 : zCx p s m args meth c cX9_withThoseBeside 4 (some .int) RX9 (dC, dI) cy) (s0 : zSt) (v1 : Int32) (hP : va_P (dC, dI) vwCl (wd_Valley_withThoseBeside cy o0 a0 (zI s0) (zL s0) (zA s0 10)) s.heap) : ∀ (n : Nat) (v2 : Int32) (v3 : Int32) (hf : Valley_withThoseBeside_h4 N s0 v1 n v2 v3 = some y) (ls : Array Slot) (hl : lv_has ls 4 [(0, .ref o0), (1, .int v1), (2, .int v2), (3, .int v3)]), W p l e rm_Valley_withThoseBeside s m args below meth c s.heap [] 0 0 (MQ below (zSi y) args s 0 0 (fun _ => False)) (F0 m 4 ls []) := by
  intro n
  induction n with
  | zero => intro v2 v3 hf; cases hf
  | succ n ih =>
    intro v2 v3 hf ls hl
    have hf : Valley_withThoseBeside_b4 N (Valley_withThoseBeside_h4 N s0 v1 n) s0 v1 v2 v3 = some y := hf
    exact k_Valley_withThoseBeside_b4 C0 s0 v1 v2 v3 (fun v2 v3 hf ls hl => ih v2 v3 hf ls hl) hP hf ls hl
set_option maxHeartbeats 4000000 in
set_option maxRecDepth 100000 in
theorem k_Valley_withThoseBeside_b0 {p : Program} {l : Launch} {e : Env} {s : State} {m : MethodId} {args : Array Value} {below : List Frame} {meth : Method} {c : Code} {dC : Nat → ClassId} {dI : Nat → Nat → Nat} {cy : Nat → ClassId} {o0 : Nat} {a0 : Nat → Nat} {N : Nat} {y : Int32} (C0 : zCx p s m args meth c cX9_withThoseBeside 4 (some .int) RX9 (dC, dI) cy) (s0 : zSt) (v1 : Int32) (hP : va_P (dC, dI) vwCl (wd_Valley_withThoseBeside cy o0 a0 (zI s0) (zL s0) (zA s0 10)) s.heap) (hf : Valley_withThoseBeside_b0 N s0 v1 = some y) (ls : Array Slot) (hl : lv_has ls 4 [(0, .ref o0), (1, .int v1)]) : W p l e rm_Valley_withThoseBeside s m args below meth c s.heap [] 0 0 (MQ below (zSi y) args s 0 0 (fun _ => False)) (F0 m 0 ls []) := by
  obtain ⟨hx, hb, hr, hml, hown, hT, hk, hK⟩ := id C0
  refine lv_iload_n hx hb dX9_withThoseBeside_0 rfl (lv_at hl 1 rfl) ?_
  refine lv_istore_n (lv' := [(2, .int v1), (0, .ref o0), (1, .int v1)]) hx hb dX9_withThoseBeside_1 rfl hl (by decide) rfl (fun ls hl => ?_)
  refine lv_iconst (v := 0) hx hb dX9_withThoseBeside_2 (by decide) ?_
  refine lv_istore_n (lv' := [(3, .int 0), (2, .int v1), (0, .ref o0), (1, .int v1)]) hx hb dX9_withThoseBeside_3 rfl hl (by decide) rfl (fun ls hl => ?_)
  exact k_Valley_withThoseBeside_h4 C0 s0 v1  hP N v1 0 hf _ (lv_sub hl [2, 3, 1, 0] rfl)
set_option maxHeartbeats 4000000 in
set_option maxRecDepth 100000 in
theorem c_Valley_withThoseBeside {l : Launch} {dC : Nat → ClassId} {dI : Nat → Nat → Nat} {cy : Nat → ClassId} {N : Nat} (o0 : Nat) (a0 : Nat → Nat) (s0 : zSt) (v1 : Int32) {y : Int32} (hf : Valley_withThoseBeside N s0 v1 = some y) : Met l yX9_withThoseBeside (.code yX9_withThoseBeside cX9_withThoseBeside 4 (some .int) :: zt) rm_Valley_withThoseBeside (va_Pc [.ref o0, .int v1] (zRd (dC, dI) cy (wd_Valley_withThoseBeside cy o0 a0 (zI s0) (zL s0) (zA s0 10)))) (zSi y) 0 0 (fun _ => False) :=
  zentR (by decide +kernel) (Nat.le_of_ble_eq_true rfl) (fun p e s m below meth c C0 hP ls hl => k_Valley_withThoseBeside_b0 C0 s0 v1 hP hf ls hl)
def wd_Valley_farFrom (cy : Nat → ClassId) (o0 : Nat) (a0 : Nat → Nat) (g0 : Nat → Int32) (h0 : Nat → Int64) (x0_5 : Nat → Int32) : va_W := [(o0, .inr (9, fs_Valley a0 g0 h0)), (a0 5, .inl (cy 0, 11, .inl x0_5))]
def rm_Valley_farFrom : Room := { frames := 2, cells := 0, slots := 0, locals := 61 }
theorem rm_ok_Valley_farFrom_Math_abs : rm_Math_abs.cells = 0 ∧ rm_Math_abs.slots = 0 ∧ rm_Math_abs.frames + 1 ≤ rm_Valley_farFrom.frames ∧ 8 + (1 + 11) + rm_Math_abs.locals ≤ rm_Valley_farFrom.locals := by decide
theorem rm_ok_Valley_farFrom_Math_min : rm_Math_min.cells = 0 ∧ rm_Math_min.slots = 0 ∧ rm_Math_min.frames + 1 ≤ rm_Valley_farFrom.frames ∧ 8 + (2 + 11) + rm_Math_min.locals ≤ rm_Valley_farFrom.locals := by decide
set_option maxHeartbeats 4000000 in
set_option maxRecDepth 100000 in
theorem k_Valley_farFrom_b54 {p : Program} {l : Launch} {e : Env} {s : State} {m : MethodId} {args : Array Value} {below : List Frame} {meth : Method} {c : Code} {dC : Nat → ClassId} {dI : Nat → Nat → Nat} {cy : Nat → ClassId} {o0 : Nat} {a0 : Nat → Nat} {N : Nat} {kh6 : Int32 → Int32 → Option (Int32)} {y : Int32} (C0 : zCx p s m args meth c cX9_farFrom 6 (some .int) RX9 (dC, dI) cy) (s0 : zSt) (v1 : Int32) (v2 : Int32) (v3 : Int32) (v4 : Int32) (hk6 : ∀ (v3 : Int32) (v4 : Int32) (_ : kh6 v3 v4 = some y) (ls : Array Slot) (_ : lv_has ls 6 [(0, .ref o0), (1, .int v1), (2, .int v2), (3, .int v3), (4, .int v4)]), W p l e rm_Valley_farFrom s m args below meth c s.heap [] 0 0 (MQ below (zSi y) args s 0 0 (fun _ => False)) (F0 m 6 ls [])) (hP : va_P (dC, dI) vwCl (wd_Valley_farFrom cy o0 a0 (zI s0) (zL s0) (zA s0 5)) s.heap) (hf : Valley_farFrom_b54 N kh6 s0 v1 v2 v3 v4 = some y) (ls : Array Slot) (hl : lv_has ls 6 [(0, .ref o0), (1, .int v1), (2, .int v2), (3, .int v3), (4, .int v4)]) : W p l e rm_Valley_farFrom s m args below meth c s.heap [] 0 0 (MQ below (zSi y) args s 0 0 (fun _ => False)) (F0 m 54 ls []) := by
  obtain ⟨hx, hb, hr, hml, hown, hT, hk, hK⟩ := id C0
  refine lv_iinc (v := v4 + 1) (lv' := [(4, .int (v4 + 1)), (0, .ref o0), (1, .int v1), (2, .int v2), (3, .int v3)]) hx hb dX9_farFrom_54 hl (k := 4) rfl rfl (by decide) rfl (fun ls hl => ?_)
  refine lv_goto (tgt := 6) hx hb dX9_farFrom_57 (by decide) ?_
  exact hk6 v3 (v4 + 1) hf _ (lv_sub hl [1, 2, 3, 4, 0] rfl)
set_option maxHeartbeats 4000000 in
set_option maxRecDepth 100000 in
theorem k_Valley_farFrom_b6 {p : Program} {l : Launch} {e : Env} {s : State} {m : MethodId} {args : Array Value} {below : List Frame} {meth : Method} {c : Code} {dC : Nat → ClassId} {dI : Nat → Nat → Nat} {cy : Nat → ClassId} {o0 : Nat} {a0 : Nat → Nat} {N : Nat} {kh6 : Int32 → Int32 → Option (Int32)} {y : Int32} (C0 : zCx p s m args meth c cX9_farFrom 6 (some .int) RX9 (dC, dI) cy) (s0 : zSt) (v1 : Int32) (v2 : Int32) (v3 : Int32) (v4 : Int32) (hk6 : ∀ (v3 : Int32) (v4 : Int32) (_ : kh6 v3 v4 = some y) (ls : Array Slot) (_ : lv_has ls 6 [(0, .ref o0), (1, .int v1), (2, .int v2), (3, .int v3), (4, .int v4)]), W p l e rm_Valley_farFrom s m args below meth c s.heap [] 0 0 (MQ below (zSi y) args s 0 0 (fun _ => False)) (F0 m 6 ls [])) (hP : va_P (dC, dI) vwCl (wd_Valley_farFrom cy o0 a0 (zI s0) (zL s0) (zA s0 5)) s.heap) (hf : Valley_farFrom_b6 N kh6 s0 v1 v2 v3 v4 = some y) (ls : Array Slot) (hl : lv_has ls 6 [(0, .ref o0), (1, .int v1), (2, .int v2), (3, .int v3), (4, .int v4)]) : W p l e rm_Valley_farFrom s m args below meth c s.heap [] 0 0 (MQ below (zSi y) args s 0 0 (fun _ => False)) (F0 m 6 ls []) := by
  obtain ⟨hx, hb, hr, hml, hown, hT, hk, hK⟩ := id C0
  refine lv_iload hx hb dX9_farFrom_6 (lv_at hl 4 rfl) ?_
  refine lv_aload_n hx hb dX9_farFrom_8 rfl (lv_at hl 0 rfl) ?_
  refine zget (v := .int (zI s0 3)) hx hb hown hT hK hP inX9 rfl smX9 0 rfl 3 (by decide) tb_101 rfl dX9_farFrom_9 ?_
  refine lv_icmp_ge (tgt := 60) hx hb dX9_farFrom_12 (by decide) (fun hb_1 => ?_) (fun hb_1 => ?_)
  · have hf := zif_t hb_1 hf
    refine lv_iload_n hx hb dX9_farFrom_60 rfl (lv_at hl 3 rfl) ?_
    cases hf
    exact zeri hx hb hr hk dX9_farFrom_61
  · have hf := zif_f hb_1 hf
    refine lv_iload_n hx hb dX9_farFrom_15 rfl (lv_at hl 2 rfl) ?_
    refine lv_iload hx hb dX9_farFrom_16 (lv_at hl 4 rfl) ?_
    refine lv_ishr hx hb dX9_farFrom_18 ?_
    refine lv_iconst (v := 1) hx hb dX9_farFrom_19 (by decide) ?_
    refine lv_iand hx hb dX9_farFrom_20 ?_
    refine lv_iconst (v := 1) hx hb dX9_farFrom_21 (by decide) ?_
    refine lv_icmp_ne (tgt := 54) hx hb dX9_farFrom_22 (by decide) (fun hb_2 => ?_) (fun hb_2 => ?_)
    · have hf := zif_f hb_2 hf
      exact k_Valley_farFrom_b54 C0 s0 v1 v2 v3 v4 hk6 hP hf _ (lv_sub hl [0, 1, 2, 3, 4] rfl)
    · have hf := zif_t hb_2 hf
      refine lv_iload_n hx hb dX9_farFrom_25 rfl (lv_at hl 1 rfl) ?_
      refine lv_aload_n hx hb dX9_farFrom_26 rfl (lv_at hl 0 rfl) ?_
      refine zget (v := .ref (a0 5)) hx hb hown hT hK hP inX9 rfl smX9 0 rfl 5 (by decide) tb_110 rfl dX9_farFrom_27 ?_
      refine lv_iload hx hb dX9_farFrom_30 (lv_at hl 4 rfl) ?_
      obtain ⟨hi3, hf⟩ := zck_some hf
      refine va_iald hx hb hK.1 hP 1 0 rfl rfl hi3 dX9_farFrom_32 ?_
      refine lv_isub hx hb dX9_farFrom_33 ?_
      obtain ⟨z4, hc5, hf⟩ := zbd_some hf
      refine zri (zS (As := [.int (v1 - ((zA s0 5) (Int32.toNatClampNeg v4)))]) hx hb hml hown hT hl.1 (c_Math_abs (v1 - ((zA s0 5) (Int32.toNatClampNeg v4))) hc5) zY_Math_abs tb_689 (zpS hK hP [] rfl) rm_ok_Valley_farFrom_Math_abs rfl rfl (Nat.le_of_ble_eq_true rfl) dX9_farFrom_34 ⟨Nat.zero_le _, Nat.zero_le _⟩) ?_
      refine lv_istore (lv' := [(5, .int z4), (0, .ref o0), (1, .int v1), (2, .int v2), (3, .int v3), (4, .int v4)]) hx hb dX9_farFrom_37 hl (by decide) rfl (fun ls hl => ?_)
      refine lv_iload_n hx hb dX9_farFrom_39 rfl (lv_at hl 4 rfl) ?_
      refine lv_iload hx hb dX9_farFrom_40 (lv_at hl 0 rfl) ?_
      refine lv_bipush (v := 12) hx hb dX9_farFrom_42 (by decide) ?_
      refine lv_iload hx hb dX9_farFrom_44 (lv_at hl 0 rfl) ?_
      refine lv_isub hx hb dX9_farFrom_46 ?_
      obtain ⟨z6, hc7, hf⟩ := zbd_some hf
      refine zri (zS (As := [.int z4, .int (12 - z4)]) hx hb hml hown hT hl.1 (c_Math_min z4 (12 - z4) hc7) zY_Math_min tb_974 (zpS hK hP [] rfl) rm_ok_Valley_farFrom_Math_min rfl rfl (Nat.le_of_ble_eq_true rfl) dX9_farFrom_47 ⟨Nat.zero_le _, Nat.zero_le _⟩) ?_
      obtain ⟨z8, hc9, hf⟩ := zbd_some hf
      refine zri (zS (As := [.int v3, .int z6]) hx hb hml hown hT hl.1 (c_Math_min v3 z6 hc9) zY_Math_min tb_974 (zpS hK hP [] rfl) rm_ok_Valley_farFrom_Math_min rfl rfl (Nat.le_of_ble_eq_true rfl) dX9_farFrom_50 ⟨Nat.zero_le _, Nat.zero_le _⟩) ?_
      refine lv_istore_n (lv' := [(3, .int z8), (5, .int z4), (0, .ref o0), (1, .int v1), (2, .int v2), (4, .int v4)]) hx hb dX9_farFrom_53 rfl hl (by decide) rfl (fun ls hl => ?_)
      exact k_Valley_farFrom_b54 C0 s0 v1 v2 z8 v4 hk6 hP hf _ (lv_sub hl [2, 3, 4, 0, 5] rfl)
set_option maxHeartbeats 4000000 in
set_option maxRecDepth 100000 in
theorem k_Valley_farFrom_h6 {p : Program} {l : Launch} {e : Env} {s : State} {m : MethodId} {args : Array Value} {below : List Frame} {meth : Method} {c : Code} {dC : Nat → ClassId} {dI : Nat → Nat → Nat} {cy : Nat → ClassId} {o0 : Nat} {a0 : Nat → Nat} {N : Nat} {y : Int32} (C0 : zCx p s m args meth c cX9_farFrom 6 (some .int) RX9 (dC, dI) cy) (s0 : zSt) (v1 : Int32) (v2 : Int32) (hP : va_P (dC, dI) vwCl (wd_Valley_farFrom cy o0 a0 (zI s0) (zL s0) (zA s0 5)) s.heap) : ∀ (n : Nat) (v3 : Int32) (v4 : Int32) (hf : Valley_farFrom_h6 N s0 v1 v2 n v3 v4 = some y) (ls : Array Slot) (hl : lv_has ls 6 [(0, .ref o0), (1, .int v1), (2, .int v2), (3, .int v3), (4, .int v4)]), W p l e rm_Valley_farFrom s m args below meth c s.heap [] 0 0 (MQ below (zSi y) args s 0 0 (fun _ => False)) (F0 m 6 ls []) := by
  intro n
  induction n with
  | zero => intro v3 v4 hf; cases hf
  | succ n ih =>
    intro v3 v4 hf ls hl
    have hf : Valley_farFrom_b6 N (Valley_farFrom_h6 N s0 v1 v2 n) s0 v1 v2 v3 v4 = some y := hf
    exact k_Valley_farFrom_b6 C0 s0 v1 v2 v3 v4 (fun v3 v4 hf ls hl => ih v3 v4 hf ls hl) hP hf ls hl
set_option maxHeartbeats 4000000 in
set_option maxRecDepth 100000 in
theorem k_Valley_farFrom_b0 {p : Program} {l : Launch} {e : Env} {s : State} {m : MethodId} {args : Array Value} {below : List Frame} {meth : Method} {c : Code} {dC : Nat → ClassId} {dI : Nat → Nat → Nat} {cy : Nat → ClassId} {o0 : Nat} {a0 : Nat → Nat} {N : Nat} {y : Int32} (C0 : zCx p s m args meth c cX9_farFrom 6 (some .int) RX9 (dC, dI) cy) (s0 : zSt) (v1 : Int32) (v2 : Int32) (hP : va_P (dC, dI) vwCl (wd_Valley_farFrom cy o0 a0 (zI s0) (zL s0) (zA s0 5)) s.heap) (hf : Valley_farFrom_b0 N s0 v1 v2 = some y) (ls : Array Slot) (hl : lv_has ls 6 [(0, .ref o0), (1, .int v1), (2, .int v2)]) : W p l e rm_Valley_farFrom s m args below meth c s.heap [] 0 0 (MQ below (zSi y) args s 0 0 (fun _ => False)) (F0 m 0 ls []) := by
  obtain ⟨hx, hb, hr, hml, hown, hT, hk, hK⟩ := id C0
  refine lv_bipush (v := 12) hx hb dX9_farFrom_0 (by decide) ?_
  refine lv_istore_n (lv' := [(3, .int 12), (0, .ref o0), (1, .int v1), (2, .int v2)]) hx hb dX9_farFrom_2 rfl hl (by decide) rfl (fun ls hl => ?_)
  refine lv_iconst (v := 0) hx hb dX9_farFrom_3 (by decide) ?_
  refine lv_istore (lv' := [(4, .int 0), (3, .int 12), (0, .ref o0), (1, .int v1), (2, .int v2)]) hx hb dX9_farFrom_4 hl (by decide) rfl (fun ls hl => ?_)
  exact k_Valley_farFrom_h6 C0 s0 v1 v2  hP N 12 0 hf _ (lv_sub hl [2, 3, 4, 1, 0] rfl)
set_option maxHeartbeats 4000000 in
set_option maxRecDepth 100000 in
theorem c_Valley_farFrom {l : Launch} {dC : Nat → ClassId} {dI : Nat → Nat → Nat} {cy : Nat → ClassId} {N : Nat} (o0 : Nat) (a0 : Nat → Nat) (s0 : zSt) (v1 : Int32) (v2 : Int32) {y : Int32} (hf : Valley_farFrom N s0 v1 v2 = some y) : Met l yX9_farFrom (.code yX9_farFrom cX9_farFrom 6 (some .int) :: zt) rm_Valley_farFrom (va_Pc [.ref o0, .int v1, .int v2] (zRd (dC, dI) cy (wd_Valley_farFrom cy o0 a0 (zI s0) (zL s0) (zA s0 5)))) (zSi y) 0 0 (fun _ => False) :=
  zentR (by decide +kernel) (Nat.le_of_ble_eq_true rfl) (fun p e s m below meth c C0 hP ls hl => k_Valley_farFrom_b0 C0 s0 v1 v2 hP hf ls hl)
def wd_CH_tapeFour (cy : Nat → ClassId) (o0 : Nat) (a0 : Nat → Nat) (g0 : Nat → Int32) (h0 : Nat → Int64) (x0_0 : Nat → Int32) : va_W := [(o0, .inr (10, fs_CH a0 g0 h0)), (a0 0, .inl (cy 2, 1500, .inl x0_0))]
def rm_CH_tapeFour : Room := { frames := 1, cells := 0, slots := 0, locals := 40 }
set_option maxHeartbeats 4000000 in
set_option maxRecDepth 100000 in
theorem k_CH_tapeFour_b3 {p : Program} {l : Launch} {e : Env} {s : State} {m : MethodId} {args : Array Value} {below : List Frame} {meth : Method} {c : Code} {dC : Nat → ClassId} {dI : Nat → Nat → Nat} {cy : Nat → ClassId} {A : Nat → Prop} {o0 : Nat} {a0 : Nat → Nat} {N : Nat} {kh3 : zSt → Int32 → Option (zSt)} {y : zSt} (C0 : zCx p s m args meth c cX10_tapeFour 3 none RX10 (dC, dI) cy) (s0 : zSt) (v1 : Int32) (v2 : Int32) (hk3 : ∀ (s0 : zSt) (v2 : Int32) {H : Heap} {locs : List Loc} (_ : va_P (dC, dI) vwCl (wd_CH_tapeFour cy o0 a0 (zI s0) (zL s0) (zA s0 0)) H) (_ : va_D A (wd_CH_tapeFour cy o0 a0 (zI s0) (zL s0) (zA s0 0))) (_ : va_S A s.heap H locs) (_ : kh3 s0 v2 = some y) (ls : Array Slot) (_ : lv_has ls 3 [(0, .ref o0), (1, .int v1), (2, .int v2)]), W p l e rm_CH_tapeFour s m args below meth c H locs 0 0 (MQ below (zQv (dC, dI) cy (wd_CH_tapeFour cy o0 a0 (zI y) (zL y) (zA y 0)) A) args s 0 0 A) (F0 m 3 ls [])) (hA : ∀ q, s.heap.size ≤ q → A q) {H : Heap} {locs : List Loc} (hP : va_P (dC, dI) vwCl (wd_CH_tapeFour cy o0 a0 (zI s0) (zL s0) (zA s0 0)) H) (hD : va_D A (wd_CH_tapeFour cy o0 a0 (zI s0) (zL s0) (zA s0 0))) (hS : va_S A s.heap H locs) (hf : CH_tapeFour_b3 N kh3 s0 v1 v2 = some y) (ls : Array Slot) (hl : lv_has ls 3 [(0, .ref o0), (1, .int v1), (2, .int v2)]) : W p l e rm_CH_tapeFour s m args below meth c H locs 0 0 (MQ below (zQv (dC, dI) cy (wd_CH_tapeFour cy o0 a0 (zI y) (zL y) (zA y 0)) A) args s 0 0 A) (F0 m 3 ls []) := by
  obtain ⟨hx, hb, hr, hml, hown, hT, hk, hK⟩ := id C0
  refine lv_iload_n hx hb dX10_tapeFour_3 rfl (lv_at hl 2 rfl) ?_
  refine lv_if_lt (tgt := 46) hx hb dX10_tapeFour_4 (by decide) (fun hb_1 => ?_) (fun hb_1 => ?_)
  · have hf := zif_t hb_1 hf
    cases hf
    exact zewv hx hb hr hk hK hP hD hS dX10_tapeFour_46
  · have hf := zif_f hb_1 hf
    refine lv_aload_n hx hb dX10_tapeFour_7 rfl (lv_at hl 0 rfl) ?_
    refine zget (v := .int (zI s0 1)) hx hb hown hT hK hP inX10 rfl smX10 0 rfl 1 (by decide) tb_432 rfl dX10_tapeFour_8 ?_
    refine lv_sipush (v := 1500) hx hb dX10_tapeFour_11 (by decide) ?_
    refine lv_icmp_ge (tgt := 46) hx hb dX10_tapeFour_14 (by decide) (fun hb_2 => ?_) (fun hb_2 => ?_)
    · have hf := zif_t hb_2 hf
      cases hf
      exact zewv hx hb hr hk hK hP hD hS dX10_tapeFour_46
    · have hf := zif_f hb_2 hf
      refine lv_aload_n hx hb dX10_tapeFour_17 rfl (lv_at hl 0 rfl) ?_
      refine zget (v := .ref (a0 0)) hx hb hown hT hK hP inX10 rfl smX10 0 rfl 0 (by decide) tb_431 rfl dX10_tapeFour_18 ?_
      refine lv_aload_n hx hb dX10_tapeFour_21 rfl (lv_at hl 0 rfl) ?_
      refine zget (v := .int (zI s0 1)) hx hb hown hT hK hP inX10 rfl smX10 0 rfl 1 (by decide) tb_432 rfl dX10_tapeFour_22 ?_
      refine lv_iload_n hx hb dX10_tapeFour_25 rfl (lv_at hl 1 rfl) ?_
      refine lv_iload_n hx hb dX10_tapeFour_26 rfl (lv_at hl 2 rfl) ?_
      refine lv_ishr hx hb dX10_tapeFour_27 ?_
      refine lv_i2b (v := Int8.toInt32 (Int32.toInt8 (v1 >>> (v2 &&& 31)))) hx hb dX10_tapeFour_28 rfl ?_
      obtain ⟨hi3, hf⟩ := zck_some hf
      refine zbst (ws' := (wd_CH_tapeFour cy o0 a0 (zI s0) (zL s0) (upd (zA s0 0) (Int32.toNatClampNeg (zI s0 1)) (vp_nar .byte (Int8.toInt32 (Int32.toInt8 (v1 >>> (v2 &&& 31)))))))) hx hb hK hP hD hS 1 2 rfl rfl hi3 rfl dX10_tapeFour_29 (fun H locs hP hD hS => ?_)
      refine lv_aload_n hx hb dX10_tapeFour_30 rfl (lv_at hl 0 rfl) ?_
      refine lv_dup hx hb dX10_tapeFour_31 rfl ?_
      refine zget (v := .int (zI s0 1)) hx hb hown hT hK hP inX10 rfl smX10 0 rfl 1 (by decide) tb_432 rfl dX10_tapeFour_32 ?_
      refine lv_iconst (v := 1) hx hb dX10_tapeFour_35 (by decide) ?_
      refine lv_iadd hx hb dX10_tapeFour_36 ?_
      refine zput (fs' := fs_CH a0 (upd (zI s0) 1 ((zI s0 1) + 1)) (zL s0)) (ws' := (wd_CH_tapeFour cy o0 a0 (upd (zI s0) 1 ((zI s0 1) + 1)) (zL s0) (upd (zA s0 0) (Int32.toNatClampNeg (zI s0 1)) (vp_nar .byte (Int8.toInt32 (Int32.toInt8 (v1 >>> (v2 &&& 31)))))))) hx hb hown hT hK hP hD hS inX10 rfl smX10 tyX10_ok nmX10 0 rfl 1 (by decide) tb_432 rfl rfl rfl (Nat.le_of_ble_eq_true rfl) rfl rfl dX10_tapeFour_37 (fun H locs hP hD hS => ?_)
      refine lv_iinc (v := v2 + (-8)) (lv' := [(2, .int (v2 + (-8))), (0, .ref o0), (1, .int v1)]) hx hb dX10_tapeFour_40 hl (k := 2) rfl rfl (by decide) rfl (fun ls hl => ?_)
      refine lv_goto (tgt := 3) hx hb dX10_tapeFour_43 (by decide) ?_
      exact hk3 (zpI (zsA s0 0 (upd (zA s0 0) (Int32.toNatClampNeg (zI s0 1)) (vp_nar .byte (Int8.toInt32 (Int32.toInt8 (v1 >>> (v2 &&& 31))))))) 1 ((zI s0 1) + 1)) (v2 + (-8)) hP hD hS hf _ (lv_sub hl [1, 2, 0] rfl)
set_option maxHeartbeats 4000000 in
set_option maxRecDepth 100000 in
theorem k_CH_tapeFour_h3 {p : Program} {l : Launch} {e : Env} {s : State} {m : MethodId} {args : Array Value} {below : List Frame} {meth : Method} {c : Code} {dC : Nat → ClassId} {dI : Nat → Nat → Nat} {cy : Nat → ClassId} {A : Nat → Prop} {o0 : Nat} {a0 : Nat → Nat} {N : Nat} {y : zSt} (C0 : zCx p s m args meth c cX10_tapeFour 3 none RX10 (dC, dI) cy) (v1 : Int32) (hA : ∀ q, s.heap.size ≤ q → A q) : ∀ (n : Nat) (s0 : zSt) (v2 : Int32) {H : Heap} {locs : List Loc} (hP : va_P (dC, dI) vwCl (wd_CH_tapeFour cy o0 a0 (zI s0) (zL s0) (zA s0 0)) H) (hD : va_D A (wd_CH_tapeFour cy o0 a0 (zI s0) (zL s0) (zA s0 0))) (hS : va_S A s.heap H locs) (hf : CH_tapeFour_h3 N v1 n s0 v2 = some y) (ls : Array Slot) (hl : lv_has ls 3 [(0, .ref o0), (1, .int v1), (2, .int v2)]), W p l e rm_CH_tapeFour s m args below meth c H locs 0 0 (MQ below (zQv (dC, dI) cy (wd_CH_tapeFour cy o0 a0 (zI y) (zL y) (zA y 0)) A) args s 0 0 A) (F0 m 3 ls []) := by
  intro n
  induction n with
  | zero => intro s0 v2 H locs hP hD hS hf; cases hf
  | succ n ih =>
    intro s0 v2 H locs hP hD hS hf ls hl
    have hf : CH_tapeFour_b3 N (CH_tapeFour_h3 N v1 n) s0 v1 v2 = some y := hf
    exact k_CH_tapeFour_b3 C0 s0 v1 v2 (fun s0 v2 _ _ hP hD hS hf ls hl => ih s0 v2 hP hD hS hf ls hl) hA hP hD hS hf ls hl
set_option maxHeartbeats 4000000 in
set_option maxRecDepth 100000 in
theorem k_CH_tapeFour_b0 {p : Program} {l : Launch} {e : Env} {s : State} {m : MethodId} {args : Array Value} {below : List Frame} {meth : Method} {c : Code} {dC : Nat → ClassId} {dI : Nat → Nat → Nat} {cy : Nat → ClassId} {A : Nat → Prop} {o0 : Nat} {a0 : Nat → Nat} {N : Nat} {y : zSt} (C0 : zCx p s m args meth c cX10_tapeFour 3 none RX10 (dC, dI) cy) (s0 : zSt) (v1 : Int32) (hA : ∀ q, s.heap.size ≤ q → A q) {H : Heap} {locs : List Loc} (hP : va_P (dC, dI) vwCl (wd_CH_tapeFour cy o0 a0 (zI s0) (zL s0) (zA s0 0)) H) (hD : va_D A (wd_CH_tapeFour cy o0 a0 (zI s0) (zL s0) (zA s0 0))) (hS : va_S A s.heap H locs) (hf : CH_tapeFour_b0 N s0 v1 = some y) (ls : Array Slot) (hl : lv_has ls 3 [(0, .ref o0), (1, .int v1)]) : W p l e rm_CH_tapeFour s m args below meth c H locs 0 0 (MQ below (zQv (dC, dI) cy (wd_CH_tapeFour cy o0 a0 (zI y) (zL y) (zA y 0)) A) args s 0 0 A) (F0 m 0 ls []) := by
  obtain ⟨hx, hb, hr, hml, hown, hT, hk, hK⟩ := id C0
  refine lv_bipush (v := 24) hx hb dX10_tapeFour_0 (by decide) ?_
  refine lv_istore_n (lv' := [(2, .int 24), (0, .ref o0), (1, .int v1)]) hx hb dX10_tapeFour_2 rfl hl (by decide) rfl (fun ls hl => ?_)
  exact k_CH_tapeFour_h3 C0 v1  hA N s0 24 hP hD hS hf _ (lv_sub hl [1, 2, 0] rfl)
set_option maxHeartbeats 4000000 in
set_option maxRecDepth 100000 in
theorem c_CH_tapeFour {l : Launch} {dC : Nat → ClassId} {dI : Nat → Nat → Nat} {cy : Nat → ClassId} {sz : Nat} {N : Nat} (o0 : Nat) (a0 : Nat → Nat) (s0 : zSt) (v1 : Int32) {y : zSt} (hf : CH_tapeFour N s0 v1 = some y) : Met l yX10_tapeFour (.code yX10_tapeFour cX10_tapeFour 3 none :: zt) rm_CH_tapeFour (va_Pc [.ref o0, .int v1] (zPre (dC, dI) cy (wd_CH_tapeFour cy o0 a0 (zI s0) (zL s0) (zA s0 0)) sz)) (zQv (dC, dI) cy (wd_CH_tapeFour cy o0 a0 (zI y) (zL y) (zA y 0)) (va_A (wd_CH_tapeFour cy o0 a0 (zI s0) (zL s0) (zA s0 0)) sz)) 0 0 (va_A (wd_CH_tapeFour cy o0 a0 (zI s0) (zL s0) (zA s0 0)) sz) :=
  zentW (Qw := fun A => (zQv (dC, dI) cy (wd_CH_tapeFour cy o0 a0 (zI y) (zL y) (zA y 0)) A)) (by decide +kernel) (Nat.le_of_ble_eq_true rfl) (fun p e s m below meth c A C0 hA hP hD hS ls hl => k_CH_tapeFour_b0 C0 s0 v1 hA hP hD hS hf ls hl)
def wd_CH_feed (cy : Nat → ClassId) (o0 : Nat) (a0 : Nat → Nat) (g0 : Nat → Int32) (h0 : Nat → Int64) (x0_0 : Nat → Int32) : va_W := [(o0, .inr (10, fs_CH a0 g0 h0)), (a0 0, .inl (cy 2, 1500, .inl x0_0))]
def rm_CH_feed : Room := { frames := 2, cells := 0, slots := 0, locals := 62 }
theorem rm_ok_CH_feed_CH_tapeFour : rm_CH_tapeFour.cells = 0 ∧ rm_CH_tapeFour.slots = 0 ∧ rm_CH_tapeFour.frames + 1 ≤ rm_CH_feed.frames ∧ 8 + (3 + 11) + rm_CH_tapeFour.locals ≤ rm_CH_feed.locals := by decide
set_option maxHeartbeats 4000000 in
set_option maxRecDepth 100000 in
theorem k_CH_feed_b0 {p : Program} {l : Launch} {e : Env} {s : State} {m : MethodId} {args : Array Value} {below : List Frame} {meth : Method} {c : Code} {dC : Nat → ClassId} {dI : Nat → Nat → Nat} {cy : Nat → ClassId} {A : Nat → Prop} {o0 : Nat} {a0 : Nat → Nat} {N : Nat} {y : Int32 × zSt} (C0 : zCx p s m args meth c cX10_feed 6 (some .int) RX10 (dC, dI) cy) (s0 : zSt) (v1 : Int32) (v2 : Int32) (v3 : Int32) (v4 : Int32) (v5 : Int32) (hA : ∀ q, s.heap.size ≤ q → A q) {H : Heap} {locs : List Loc} (hP : va_P (dC, dI) vwCl (wd_CH_feed cy o0 a0 (zI s0) (zL s0) (zA s0 0)) H) (hD : va_D A (wd_CH_feed cy o0 a0 (zI s0) (zL s0) (zA s0 0))) (hS : va_S A s.heap H locs) (hf : CH_feed_b0 N s0 v1 v2 v3 v4 v5 = some y) (ls : Array Slot) (hl : lv_has ls 6 [(0, .ref o0), (1, .int v1), (2, .int v2), (3, .int v3), (4, .int v4), (5, .int v5)]) : W p l e rm_CH_feed s m args below meth c H locs 0 0 (MQ below (zQi y.1 (dC, dI) cy (wd_CH_feed cy o0 a0 (zI y.2) (zL y.2) (zA y.2 0)) A) args s 0 0 A) (F0 m 0 ls []) := by
  obtain ⟨hx, hb, hr, hml, hown, hT, hk, hK⟩ := id C0
  refine lv_aload_n hx hb dX10_feed_0 rfl (lv_at hl 0 rfl) ?_
  refine zget (v := .int (zI s0 1)) hx hb hown hT hK hP inX10 rfl smX10 0 rfl 1 (by decide) tb_432 rfl dX10_feed_1 ?_
  refine lv_sipush (v := 1480) hx hb dX10_feed_4 (by decide) ?_
  refine lv_icmp_le (tgt := 12) hx hb dX10_feed_7 (by decide) (fun hb_1 => ?_) (fun hb_1 => ?_)
  · have hf := zif_t hb_1 hf
    refine lv_aload_n hx hb dX10_feed_12 rfl (lv_at hl 0 rfl) ?_
    refine lv_iload_n hx hb dX10_feed_13 rfl (lv_at hl 1 rfl) ?_
    obtain ⟨z2, hc3, hf⟩ := zbd_some hf
    refine zwv (wr := []) (ws' := (wd_CH_feed cy o0 a0 (zI z2) (zL z2) (zA z2 0))) (zV (As := [.int v1]) hx hb hml hown hT hl.1 (c_CH_tapeFour o0 a0 s0 v1 hc3) zY_CH_tapeFour tb_487 (zpRw hK hP hD [0, 1] (by decide) rfl 0 10 rfl rfl rfl rfl) rm_ok_CH_feed_CH_tapeFour rfl rfl (Nat.le_of_ble_eq_true rfl) dX10_feed_14 ⟨Nat.zero_le _, Nat.zero_le _⟩) hP hD hS hA [0, 1] [] [0, 1] rfl rfl (by decide) (by decide) (by decide) rfl rfl (fun H locs hP hD hS => ?_)
    refine lv_aload_n hx hb dX10_feed_17 rfl (lv_at hl 0 rfl) ?_
    refine lv_iload_n hx hb dX10_feed_18 rfl (lv_at hl 2 rfl) ?_
    obtain ⟨z4, hc5, hf⟩ := zbd_some hf
    refine zwv (wr := []) (ws' := (wd_CH_feed cy o0 a0 (zI z4) (zL z4) (zA z4 0))) (zV (As := [.int v2]) hx hb hml hown hT hl.1 (c_CH_tapeFour o0 a0 z2 v2 hc5) zY_CH_tapeFour tb_487 (zpRw hK hP hD [0, 1] (by decide) rfl 0 10 rfl rfl rfl rfl) rm_ok_CH_feed_CH_tapeFour rfl rfl (Nat.le_of_ble_eq_true rfl) dX10_feed_19 ⟨Nat.zero_le _, Nat.zero_le _⟩) hP hD hS hA [0, 1] [] [0, 1] rfl rfl (by decide) (by decide) (by decide) rfl rfl (fun H locs hP hD hS => ?_)
    refine lv_aload_n hx hb dX10_feed_22 rfl (lv_at hl 0 rfl) ?_
    refine lv_iload_n hx hb dX10_feed_23 rfl (lv_at hl 3 rfl) ?_
    obtain ⟨z6, hc7, hf⟩ := zbd_some hf
    refine zwv (wr := []) (ws' := (wd_CH_feed cy o0 a0 (zI z6) (zL z6) (zA z6 0))) (zV (As := [.int v3]) hx hb hml hown hT hl.1 (c_CH_tapeFour o0 a0 z4 v3 hc7) zY_CH_tapeFour tb_487 (zpRw hK hP hD [0, 1] (by decide) rfl 0 10 rfl rfl rfl rfl) rm_ok_CH_feed_CH_tapeFour rfl rfl (Nat.le_of_ble_eq_true rfl) dX10_feed_24 ⟨Nat.zero_le _, Nat.zero_le _⟩) hP hD hS hA [0, 1] [] [0, 1] rfl rfl (by decide) (by decide) (by decide) rfl rfl (fun H locs hP hD hS => ?_)
    refine lv_aload_n hx hb dX10_feed_27 rfl (lv_at hl 0 rfl) ?_
    refine lv_iload hx hb dX10_feed_28 (lv_at hl 4 rfl) ?_
    obtain ⟨z8, hc9, hf⟩ := zbd_some hf
    refine zwv (wr := []) (ws' := (wd_CH_feed cy o0 a0 (zI z8) (zL z8) (zA z8 0))) (zV (As := [.int v4]) hx hb hml hown hT hl.1 (c_CH_tapeFour o0 a0 z6 v4 hc9) zY_CH_tapeFour tb_487 (zpRw hK hP hD [0, 1] (by decide) rfl 0 10 rfl rfl rfl rfl) rm_ok_CH_feed_CH_tapeFour rfl rfl (Nat.le_of_ble_eq_true rfl) dX10_feed_30 ⟨Nat.zero_le _, Nat.zero_le _⟩) hP hD hS hA [0, 1] [] [0, 1] rfl rfl (by decide) (by decide) (by decide) rfl rfl (fun H locs hP hD hS => ?_)
    refine lv_aload_n hx hb dX10_feed_33 rfl (lv_at hl 0 rfl) ?_
    refine lv_iload hx hb dX10_feed_34 (lv_at hl 5 rfl) ?_
    obtain ⟨z10, hc11, hf⟩ := zbd_some hf
    refine zwv (wr := []) (ws' := (wd_CH_feed cy o0 a0 (zI z10) (zL z10) (zA z10 0))) (zV (As := [.int v5]) hx hb hml hown hT hl.1 (c_CH_tapeFour o0 a0 z8 v5 hc11) zY_CH_tapeFour tb_487 (zpRw hK hP hD [0, 1] (by decide) rfl 0 10 rfl rfl rfl rfl) rm_ok_CH_feed_CH_tapeFour rfl rfl (Nat.le_of_ble_eq_true rfl) dX10_feed_36 ⟨Nat.zero_le _, Nat.zero_le _⟩) hP hD hS hA [0, 1] [] [0, 1] rfl rfl (by decide) (by decide) (by decide) rfl rfl (fun H locs hP hD hS => ?_)
    refine lv_aload_n hx hb dX10_feed_39 rfl (lv_at hl 0 rfl) ?_
    refine zget (v := .int (zI z10 1)) hx hb hown hT hK hP inX10 rfl smX10 0 rfl 1 (by decide) tb_432 rfl dX10_feed_40 ?_
    cases hf
    exact zewi hx hb hr hk hK hP hD hS dX10_feed_43
  · have hf := zif_f hb_1 hf
    refine lv_iconst (v := (-1)) hx hb dX10_feed_10 (by decide) ?_
    cases hf
    exact zewi hx hb hr hk hK hP hD hS dX10_feed_11
set_option maxHeartbeats 4000000 in
set_option maxRecDepth 100000 in
theorem c_CH_feed {l : Launch} {dC : Nat → ClassId} {dI : Nat → Nat → Nat} {cy : Nat → ClassId} {sz : Nat} {N : Nat} (o0 : Nat) (a0 : Nat → Nat) (s0 : zSt) (v1 : Int32) (v2 : Int32) (v3 : Int32) (v4 : Int32) (v5 : Int32) {y : Int32 × zSt} (hf : CH_feed N s0 v1 v2 v3 v4 v5 = some y) : Met l yX10_feed (.code yX10_feed cX10_feed 6 (some .int) :: zt) rm_CH_feed (va_Pc [.ref o0, .int v1, .int v2, .int v3, .int v4, .int v5] (zPre (dC, dI) cy (wd_CH_feed cy o0 a0 (zI s0) (zL s0) (zA s0 0)) sz)) (zQi y.1 (dC, dI) cy (wd_CH_feed cy o0 a0 (zI y.2) (zL y.2) (zA y.2 0)) (va_A (wd_CH_feed cy o0 a0 (zI s0) (zL s0) (zA s0 0)) sz)) 0 0 (va_A (wd_CH_feed cy o0 a0 (zI s0) (zL s0) (zA s0 0)) sz) :=
  zentW (Qw := fun A => (zQi y.1 (dC, dI) cy (wd_CH_feed cy o0 a0 (zI y.2) (zL y.2) (zA y.2 0)) A)) (by decide +kernel) (Nat.le_of_ble_eq_true rfl) (fun p e s m below meth c A C0 hA hP hD hS ls hl => k_CH_feed_b0 C0 s0 v1 v2 v3 v4 v5 hA hP hD hS hf ls hl)
def wd_CH_end (cy : Nat → ClassId) (o0 : Nat) (a0 : Nat → Nat) (g0 : Nat → Int32) (h0 : Nat → Int64) : va_W := [(o0, .inr (10, fs_CH a0 g0 h0))]
def rm_CH_end : Room := { frames := 2, cells := 0, slots := 0, locals := 62 }
theorem rm_ok_CH_end_CH_within : rm_CH_within.cells = 0 ∧ rm_CH_within.slots = 0 ∧ rm_CH_within.frames + 1 ≤ rm_CH_end.frames ∧ 8 + (3 + 11) + rm_CH_within.locals ≤ rm_CH_end.locals := by decide
set_option maxHeartbeats 4000000 in
set_option maxRecDepth 100000 in
theorem k_CH_end_b0 {p : Program} {l : Launch} {e : Env} {s : State} {m : MethodId} {args : Array Value} {below : List Frame} {meth : Method} {c : Code} {dC : Nat → ClassId} {dI : Nat → Nat → Nat} {cy : Nat → ClassId} {A : Nat → Prop} {o0 : Nat} {a0 : Nat → Nat} {N : Nat} {y : Int32 × zSt} (C0 : zCx p s m args meth c cX10_end 2 (some .int) RX10 (dC, dI) cy) (s0 : zSt) (v1 : Int32) (hA : ∀ q, s.heap.size ≤ q → A q) {H : Heap} {locs : List Loc} (hP : va_P (dC, dI) vwCl (wd_CH_end cy o0 a0 (zI s0) (zL s0)) H) (hD : va_D A (wd_CH_end cy o0 a0 (zI s0) (zL s0))) (hS : va_S A s.heap H locs) (hf : CH_end_b0 N s0 v1 = some y) (ls : Array Slot) (hl : lv_has ls 2 [(0, .ref o0), (1, .int v1)]) : W p l e rm_CH_end s m args below meth c H locs 0 0 (MQ below (zQi y.1 (dC, dI) cy (wd_CH_end cy o0 a0 (zI y.2) (zL y.2)) A) args s 0 0 A) (F0 m 0 ls []) := by
  obtain ⟨hx, hb, hr, hml, hown, hT, hk, hK⟩ := id C0
  refine lv_iload_n hx hb dX10_end_0 rfl (lv_at hl 1 rfl) ?_
  refine lv_iconst (v := 0) hx hb dX10_end_1 (by decide) ?_
  refine lv_aload_n hx hb dX10_end_2 rfl (lv_at hl 0 rfl) ?_
  refine zget (v := .int (zI s0 1)) hx hb hown hT hK hP inX10 rfl smX10 0 rfl 1 (by decide) tb_432 rfl dX10_end_3 ?_
  obtain ⟨z1, hc2, hf⟩ := zbd_some hf
  refine zri (zS (As := [.int v1, .int 0, .int (zI s0 1)]) hx hb hml hown hT hl.1 (c_CH_within v1 0 (zI s0 1) hc2) zY_CH_within tb_495 (zpS hK hP [] rfl) rm_ok_CH_end_CH_within rfl rfl (Nat.le_of_ble_eq_true rfl) dX10_end_6 ⟨Nat.zero_le _, Nat.zero_le _⟩) ?_
  refine lv_if_ne (tgt := 14) hx hb dX10_end_9 (by decide) (fun hb_3 => ?_) (fun hb_3 => ?_)
  · have hf := zif_f hb_3 hf
    refine lv_aload_n hx hb dX10_end_14 rfl (lv_at hl 0 rfl) ?_
    refine lv_iload_n hx hb dX10_end_15 rfl (lv_at hl 1 rfl) ?_
    refine zput (fs' := fs_CH a0 (upd (zI s0) 1 v1) (zL s0)) (ws' := (wd_CH_end cy o0 a0 (upd (zI s0) 1 v1) (zL s0))) hx hb hown hT hK hP hD hS inX10 rfl smX10 tyX10_ok nmX10 0 rfl 1 (by decide) tb_432 rfl rfl rfl (Nat.le_of_ble_eq_true rfl) rfl rfl dX10_end_16 (fun H locs hP hD hS => ?_)
    refine lv_iload_n hx hb dX10_end_19 rfl (lv_at hl 1 rfl) ?_
    cases hf
    exact zewi hx hb hr hk hK hP hD hS dX10_end_20
  · have hf := zif_t hb_3 hf
    refine lv_iconst (v := (-1)) hx hb dX10_end_12 (by decide) ?_
    cases hf
    exact zewi hx hb hr hk hK hP hD hS dX10_end_13
set_option maxHeartbeats 4000000 in
set_option maxRecDepth 100000 in
theorem c_CH_end {l : Launch} {dC : Nat → ClassId} {dI : Nat → Nat → Nat} {cy : Nat → ClassId} {sz : Nat} {N : Nat} (o0 : Nat) (a0 : Nat → Nat) (s0 : zSt) (v1 : Int32) {y : Int32 × zSt} (hf : CH_end N s0 v1 = some y) : Met l yX10_end (.code yX10_end cX10_end 2 (some .int) :: zt) rm_CH_end (va_Pc [.ref o0, .int v1] (zPre (dC, dI) cy (wd_CH_end cy o0 a0 (zI s0) (zL s0)) sz)) (zQi y.1 (dC, dI) cy (wd_CH_end cy o0 a0 (zI y.2) (zL y.2)) (va_A (wd_CH_end cy o0 a0 (zI s0) (zL s0)) sz)) 0 0 (va_A (wd_CH_end cy o0 a0 (zI s0) (zL s0)) sz) :=
  zentW (Qw := fun A => (zQi y.1 (dC, dI) cy (wd_CH_end cy o0 a0 (zI y.2) (zL y.2)) A)) (by decide +kernel) (Nat.le_of_ble_eq_true rfl) (fun p e s m below meth c A C0 hA hP hD hS ls hl => k_CH_end_b0 C0 s0 v1 hA hP hD hS hf ls hl)
def wd_CH_valley (cy : Nat → ClassId) (o0 : Nat) (a0 : Nat → Nat) (r0 : Nat → Nat) (g0 : Nat → Int32) (h0 : Nat → Int64) (a1 : Nat → Nat) (g1 : Nat → Int32) (h1 : Nat → Int64) (a2 : Nat → Nat) (g2 : Nat → Int32) (h2 : Nat → Int64) (x2_1 : Nat → Int64) (x2_2 : Nat → Int32) (x2_4 : Nat → Int64) (x2_5 : Nat → Int32) (x2_6 : Nat → Int32) (x2_7 : Nat → Int32) (x2_10 : Nat → Int32) (x2_13 : Nat → Int64) (x2_14 : Nat → Int32) (a3 : Nat → Nat) (g3 : Nat → Int32) (h3 : Nat → Int64) (x3_1 : Nat → Int32) (x3_2 : Nat → Int32) (x3_3 : Nat → Int64) (f4 : Nat → Int32) (a5 : Nat → Nat) (g5 : Nat → Int32) (h5 : Nat → Int64) (x5_5 : Nat → Int32) (a6 : Nat → Nat) (g6 : Nat → Int32) (h6 : Nat → Int64) (a7 : Nat → Nat) (g7 : Nat → Int32) (h7 : Nat → Int64) : va_W := [(o0, .inr (10, fs_CH r0 g0 h0)), ((a0 2), .inr (8, fs_Teller a1 g1 h1)), ((a0 4), .inr (9, fs_Valley a2 g2 h2)), (a2 1, .inl (cy 1, 3, .inr (.inl x2_1))), (a2 2, .inl (cy 0, 3, .inl x2_2)), (a2 4, .inl (cy 1, 11, .inr (.inl x2_4))), (a2 5, .inl (cy 0, 11, .inl x2_5)), (a2 6, .inl (cy 0, 11, .inl x2_6)), (a2 7, .inl (cy 0, 11, .inl x2_7)), (a2 10, .inl (cy 0, 11, .inl x2_10)), (a2 13, .inl (cy 1, 4, .inr (.inl x2_13))), (a2 14, .inl (cy 0, 4, .inl x2_14)), ((a1 2), .inr (6, fs_Reader a3 g3 h3)), (a3 1, .inl (cy 0, 205, .inl x3_1)), (a3 2, .inl (cy 0, 205, .inl x3_2)), (a3 3, .inl (cy 1, 205, .inr (.inl x3_3))), ((a3 4), .inl (cy 2, 1500, .inl f4)), ((a0 5), .inr (3, fs_Earnest a5 g5 h5)), (a5 5, .inl (cy 0, 11, .inl x5_5)), ((a0 8), .inr (4, fs_Entries a6 g6 h6)), ((a0 14), .inr (5, fs_Parting a7 g7 h7))]
def rm_CH_valley : Room := { frames := 8, cells := 0, slots := 0, locals := 199 }
theorem rm_ok_CH_valley_Earnest_begin : rm_Earnest_begin.cells = 0 ∧ rm_Earnest_begin.slots = 0 ∧ rm_Earnest_begin.frames + 1 ≤ rm_CH_valley.frames ∧ 8 + (2 + 11) + rm_Earnest_begin.locals ≤ rm_CH_valley.locals := by decide
theorem rm_ok_CH_valley_Teller_tell : rm_Teller_tell.cells = 0 ∧ rm_Teller_tell.slots = 0 ∧ rm_Teller_tell.frames + 1 ≤ rm_CH_valley.frames ∧ 8 + (4 + 11) + rm_Teller_tell.locals ≤ rm_CH_valley.locals := by decide
set_option maxHeartbeats 4000000 in
set_option maxRecDepth 100000 in
theorem k_CH_valley_b0 {p : Program} {l : Launch} {e : Env} {s : State} {m : MethodId} {args : Array Value} {below : List Frame} {meth : Method} {c : Code} {dC : Nat → ClassId} {dI : Nat → Nat → Nat} {cy : Nat → ClassId} {A : Nat → Prop} {o0 : Nat} {a0 : Nat → Nat} {a1 : Nat → Nat} {a2 : Nat → Nat} {a3 : Nat → Nat} {a5 : Nat → Nat} {a6 : Nat → Nat} {a7 : Nat → Nat} {N : Nat} {y : Int32 × zSt × zSt × zSt × zSt × zSt × zSt × zSt × Bool} (C0 : zCx p s m args meth c cX10_valley 3 (some .int) RX10 (dC, dI) cy) (s0 : zSt) (s1 : zSt) (s2 : zSt) (s3 : zSt) (f4 : Nat → Int32) (s5 : zSt) (s6 : zSt) (s7 : zSt) (hA : ∀ q, s.heap.size ≤ q → A q) {H : Heap} {locs : List Loc} (hP : va_P (dC, dI) vwCl (wd_CH_valley cy o0 a0 a0 (zI s0) (zL s0) a1 (zI s1) (zL s1) a2 (zI s2) (zL s2) (zB s2 1) (zA s2 2) (zB s2 4) (zA s2 5) (zA s2 6) (zA s2 7) (zA s2 10) (zB s2 13) (zA s2 14) a3 (zI s3) (zL s3) (zA s3 1) (zA s3 2) (zB s3 3) f4 a5 (zI s5) (zL s5) (zA s5 5) a6 (zI s6) (zL s6) a7 (zI s7) (zL s7)) H) (hD : va_D A (wd_CH_valley cy o0 a0 a0 (zI s0) (zL s0) a1 (zI s1) (zL s1) a2 (zI s2) (zL s2) (zB s2 1) (zA s2 2) (zB s2 4) (zA s2 5) (zA s2 6) (zA s2 7) (zA s2 10) (zB s2 13) (zA s2 14) a3 (zI s3) (zL s3) (zA s3 1) (zA s3 2) (zB s3 3) f4 a5 (zI s5) (zL s5) (zA s5 5) a6 (zI s6) (zL s6) a7 (zI s7) (zL s7))) (hS : va_S A s.heap H locs) (hf : CH_valley_b0 N s0 s1 s2 s3 f4 s5 s6 s7 = some y) (ls : Array Slot) (hl : lv_has ls 3 [(0, .ref o0)]) : W p l e rm_CH_valley s m args below meth c H locs 0 0 (MQ below (zQi y.1 (dC, dI) cy (wd_CH_valley cy o0 a0 (cond y.2.2.2.2.2.2.2.2 (va_up (va_up a0 3 (a0 4)) 4 (a0 3)) a0) (zI y.2.1) (zL y.2.1) a1 (zI y.2.2.1) (zL y.2.2.1) a2 (zI y.2.2.2.1) (zL y.2.2.2.1) (zB y.2.2.2.1 1) (zA y.2.2.2.1 2) (zB y.2.2.2.1 4) (zA y.2.2.2.1 5) (zA y.2.2.2.1 6) (zA y.2.2.2.1 7) (zA y.2.2.2.1 10) (zB y.2.2.2.1 13) (zA y.2.2.2.1 14) a3 (zI y.2.2.2.2.1) (zL y.2.2.2.2.1) (zA y.2.2.2.2.1 1) (zA y.2.2.2.2.1 2) (zB y.2.2.2.2.1 3) f4 a5 (zI y.2.2.2.2.2.1) (zL y.2.2.2.2.2.1) (zA y.2.2.2.2.2.1 5) a6 (zI y.2.2.2.2.2.2.1) (zL y.2.2.2.2.2.2.1) a7 (zI y.2.2.2.2.2.2.2.1) (zL y.2.2.2.2.2.2.2.1)) A) args s 0 0 A) (F0 m 0 ls []) := by
  obtain ⟨hx, hb, hr, hml, hown, hT, hk, hK⟩ := id C0
  refine lv_aload_n hx hb dX10_valley_0 rfl (lv_at hl 0 rfl) ?_
  refine zget (v := .ref (a0 2)) hx hb hown hT hK hP inX10 rfl smX10 0 rfl 2 (by decide) tb_433 rfl dX10_valley_1 ?_
  refine lv_aload_n hx hb dX10_valley_4 rfl (lv_at hl 0 rfl) ?_
  refine zget (v := .int (zI s0 1)) hx hb hown hT hK hP inX10 rfl smX10 0 rfl 1 (by decide) tb_432 rfl dX10_valley_5 ?_
  refine lv_aload_n hx hb dX10_valley_8 rfl (lv_at hl 0 rfl) ?_
  refine zget (v := .ref (a0 4)) hx hb hown hT hK hP inX10 rfl smX10 0 rfl 4 (by decide) tb_435 rfl dX10_valley_9 ?_
  obtain ⟨z1, hc2, hf⟩ := zbd_some hf
  refine zwi (wr := [(o0, .inr (10, fs_CH a0 (zI s0) (zL s0))), ((a0 5), .inr (3, fs_Earnest a5 (zI s5) (zL s5))), (a5 5, .inl (cy 0, 11, .inl (zA s5 5))), ((a0 8), .inr (4, fs_Entries a6 (zI s6) (zL s6))), ((a0 14), .inr (5, fs_Parting a7 (zI s7) (zL s7)))]) (ws' := (wd_CH_valley cy o0 a0 a0 (zI s0) (zL s0) a1 (zI z1.2.1) (zL z1.2.1) a2 (zI z1.2.2.1) (zL z1.2.2.1) (zB z1.2.2.1 1) (zA z1.2.2.1 2) (zB z1.2.2.1 4) (zA z1.2.2.1 5) (zA z1.2.2.1 6) (zA z1.2.2.1 7) (zA z1.2.2.1 10) (zB z1.2.2.1 13) (zA z1.2.2.1 14) a3 (zI z1.2.2.2) (zL z1.2.2.2) (zA z1.2.2.2 1) (zA z1.2.2.2 2) (zB z1.2.2.2 3) f4 a5 (zI s5) (zL s5) (zA s5 5) a6 (zI s6) (zL s6) a7 (zI s7) (zL s7))) (zV (As := [.int (zI s0 1), .ref (a0 4)]) hx hb hml hown hT hl.1 (c_Teller_tell (a0 2) a1 s1 (a0 4) a2 s2 a3 s3 f4 (zI s0 1) hc2) zY_Teller_tell tb_502 (zpRw hK hP hD [1, 2, 3, 4, 5, 6, 7, 8, 9, 10, 11, 12, 13, 14, 15, 16] (by decide) rfl 0 8 rfl rfl rfl rfl) rm_ok_CH_valley_Teller_tell rfl rfl (Nat.le_of_ble_eq_true rfl) dX10_valley_12 ⟨Nat.zero_le _, Nat.zero_le _⟩) hP hD hS hA [1, 2, 3, 4, 5, 6, 7, 8, 9, 10, 11, 12, 13, 14, 15, 16] [0, 17, 18, 19, 20] [0, 5, 6, 7, 8, 9, 10, 11, 12, 13, 14, 15, 16, 17, 18, 19, 20, 1, 2, 3, 4] rfl rfl (by decide) (by decide) (by decide) rfl rfl (fun H locs hP hD hS => ?_)
  refine lv_istore_n (lv' := [(1, .int z1.1), (0, .ref o0)]) hx hb dX10_valley_15 rfl hl (by decide) rfl (fun ls hl => ?_)
  refine lv_aload_n hx hb dX10_valley_16 rfl (lv_at hl 1 rfl) ?_
  refine lv_iconst (v := 0) hx hb dX10_valley_17 (by decide) ?_
  refine zput (fs' := fs_CH a0 (upd (zI s0) 1 0) (zL s0)) (ws' := (wd_CH_valley cy o0 a0 a0 (upd (zI s0) 1 0) (zL s0) a1 (zI z1.2.1) (zL z1.2.1) a2 (zI z1.2.2.1) (zL z1.2.2.1) (zB z1.2.2.1 1) (zA z1.2.2.1 2) (zB z1.2.2.1 4) (zA z1.2.2.1 5) (zA z1.2.2.1 6) (zA z1.2.2.1 7) (zA z1.2.2.1 10) (zB z1.2.2.1 13) (zA z1.2.2.1 14) a3 (zI z1.2.2.2) (zL z1.2.2.2) (zA z1.2.2.2 1) (zA z1.2.2.2 2) (zB z1.2.2.2 3) f4 a5 (zI s5) (zL s5) (zA s5 5) a6 (zI s6) (zL s6) a7 (zI s7) (zL s7))) hx hb hown hT hK hP hD hS inX10 rfl smX10 tyX10_ok nmX10 0 rfl 1 (by decide) tb_432 rfl rfl rfl (Nat.le_of_ble_eq_true rfl) rfl rfl dX10_valley_18 (fun H locs hP hD hS => ?_)
  refine lv_iload_n hx hb dX10_valley_21 rfl (lv_at hl 0 rfl) ?_
  refine lv_if_ne (tgt := 27) hx hb dX10_valley_22 (by decide) (fun hb_3 => ?_) (fun hb_3 => ?_)
  · have hf := zif_f hb_3 hf
    refine lv_aload_n hx hb dX10_valley_27 rfl (lv_at hl 1 rfl) ?_
    refine zget (v := .ref (a0 3)) hx hb hown hT hK hP inX10 rfl smX10 0 rfl 3 (by decide) tb_434 rfl dX10_valley_28 ?_
    refine lv_astore_n (lv' := [(2, .ref (a0 3)), (1, .int z1.1), (0, .ref o0)]) hx hb dX10_valley_31 rfl hl (by decide) rfl (fun ls hl => ?_)
    refine lv_aload_n hx hb dX10_valley_32 rfl (lv_at hl 2 rfl) ?_
    refine lv_aload_n hx hb dX10_valley_33 rfl (lv_at hl 2 rfl) ?_
    refine zget (v := .ref (a0 4)) hx hb hown hT hK hP inX10 rfl smX10 0 rfl 4 (by decide) tb_435 rfl dX10_valley_34 ?_
    refine zput (fs' := fs_CH (va_up a0 3 (a0 4)) (upd (zI s0) 1 0) (zL s0)) (ws' := (wd_CH_valley cy o0 a0 (va_up a0 3 (a0 4)) (upd (zI s0) 1 0) (zL s0) a1 (zI z1.2.1) (zL z1.2.1) a2 (zI z1.2.2.1) (zL z1.2.2.1) (zB z1.2.2.1 1) (zA z1.2.2.1 2) (zB z1.2.2.1 4) (zA z1.2.2.1 5) (zA z1.2.2.1 6) (zA z1.2.2.1 7) (zA z1.2.2.1 10) (zB z1.2.2.1 13) (zA z1.2.2.1 14) a3 (zI z1.2.2.2) (zL z1.2.2.2) (zA z1.2.2.2 1) (zA z1.2.2.2 2) (zB z1.2.2.2 3) f4 a5 (zI s5) (zL s5) (zA s5 5) a6 (zI s6) (zL s6) a7 (zI s7) (zL s7))) hx hb hown hT hK hP hD hS inX10 rfl smX10 tyX10_ok nmX10 0 rfl 3 (by decide) tb_434 rfl rfl rfl (Nat.le_of_ble_eq_true rfl) rfl rfl dX10_valley_37 (fun H locs hP hD hS => ?_)
    refine lv_aload_n hx hb dX10_valley_40 rfl (lv_at hl 2 rfl) ?_
    refine lv_aload_n hx hb dX10_valley_41 rfl (lv_at hl 0 rfl) ?_
    refine zput (fs' := fs_CH (va_up (va_up a0 3 (a0 4)) 4 (a0 3)) (upd (zI s0) 1 0) (zL s0)) (ws' := (wd_CH_valley cy o0 a0 (va_up (va_up a0 3 (a0 4)) 4 (a0 3)) (upd (zI s0) 1 0) (zL s0) a1 (zI z1.2.1) (zL z1.2.1) a2 (zI z1.2.2.1) (zL z1.2.2.1) (zB z1.2.2.1 1) (zA z1.2.2.1 2) (zB z1.2.2.1 4) (zA z1.2.2.1 5) (zA z1.2.2.1 6) (zA z1.2.2.1 7) (zA z1.2.2.1 10) (zB z1.2.2.1 13) (zA z1.2.2.1 14) a3 (zI z1.2.2.2) (zL z1.2.2.2) (zA z1.2.2.2 1) (zA z1.2.2.2 2) (zB z1.2.2.2 3) f4 a5 (zI s5) (zL s5) (zA s5 5) a6 (zI s6) (zL s6) a7 (zI s7) (zL s7))) hx hb hown hT hK hP hD hS inX10 rfl smX10 tyX10_ok nmX10 0 rfl 4 (by decide) tb_435 rfl rfl rfl (Nat.le_of_ble_eq_true rfl) rfl rfl dX10_valley_42 (fun H locs hP hD hS => ?_)
    refine lv_aload_n hx hb dX10_valley_45 rfl (lv_at hl 2 rfl) ?_
    refine zget (v := .ref (a0 5)) hx hb hown hT hK hP inX10 rfl smX10 0 rfl 5 (by decide) tb_436 rfl dX10_valley_46 ?_
    refine lv_aload_n hx hb dX10_valley_49 rfl (lv_at hl 2 rfl) ?_
    refine zget (v := .ref (a0 4)) hx hb hown hT hK hP inX10 rfl smX10 0 rfl 3 (by decide) tb_434 rfl dX10_valley_50 ?_
    obtain ⟨z4, hc5, hf⟩ := zbd_some hf
    refine zwv (wr := [(o0, .inr (10, fs_CH (va_up (va_up a0 3 (a0 4)) 4 (a0 3)) (upd (zI s0) 1 0) (zL s0))), ((a0 2), .inr (8, fs_Teller a1 (zI z1.2.1) (zL z1.2.1))), (a2 1, .inl (cy 1, 3, .inr (.inl (zB z1.2.2.1 1)))), (a2 2, .inl (cy 0, 3, .inl (zA z1.2.2.1 2))), (a2 4, .inl (cy 1, 11, .inr (.inl (zB z1.2.2.1 4)))), (a2 5, .inl (cy 0, 11, .inl (zA z1.2.2.1 5))), (a2 6, .inl (cy 0, 11, .inl (zA z1.2.2.1 6))), (a2 7, .inl (cy 0, 11, .inl (zA z1.2.2.1 7))), (a2 10, .inl (cy 0, 11, .inl (zA z1.2.2.1 10))), (a2 13, .inl (cy 1, 4, .inr (.inl (zB z1.2.2.1 13)))), (a2 14, .inl (cy 0, 4, .inl (zA z1.2.2.1 14))), ((a1 2), .inr (6, fs_Reader a3 (zI z1.2.2.2) (zL z1.2.2.2))), (a3 1, .inl (cy 0, 205, .inl (zA z1.2.2.2 1))), (a3 2, .inl (cy 0, 205, .inl (zA z1.2.2.2 2))), (a3 3, .inl (cy 1, 205, .inr (.inl (zB z1.2.2.2 3)))), ((a3 4), .inl (cy 2, 1500, .inl f4)), ((a0 8), .inr (4, fs_Entries a6 (zI s6) (zL s6))), ((a0 14), .inr (5, fs_Parting a7 (zI s7) (zL s7)))]) (ws' := (wd_CH_valley cy o0 a0 (va_up (va_up a0 3 (a0 4)) 4 (a0 3)) (upd (zI s0) 1 0) (zL s0) a1 (zI z1.2.1) (zL z1.2.1) a2 (zI z1.2.2.1) (zL z1.2.2.1) (zB z1.2.2.1 1) (zA z1.2.2.1 2) (zB z1.2.2.1 4) (zA z1.2.2.1 5) (zA z1.2.2.1 6) (zA z1.2.2.1 7) (zA z1.2.2.1 10) (zB z1.2.2.1 13) (zA z1.2.2.1 14) a3 (zI z1.2.2.2) (zL z1.2.2.2) (zA z1.2.2.2 1) (zA z1.2.2.2 2) (zB z1.2.2.2 3) f4 a5 (zI z4) (zL z4) (zA z4 5) a6 (zI s6) (zL s6) a7 (zI s7) (zL s7))) (zV (As := [.ref (a0 4)]) hx hb hml hown hT hl.1 (c_Earnest_begin (a0 5) a5 s5 (a0 4) a2 z1.2.2.1 hc5) zY_Earnest_begin tb_637 (zpRw hK hP hD [17, 18, 2] (by decide) rfl 0 3 rfl rfl rfl rfl) rm_ok_CH_valley_Earnest_begin rfl rfl (Nat.le_of_ble_eq_true rfl) dX10_valley_53 ⟨Nat.zero_le _, Nat.zero_le _⟩) hP hD hS hA [17, 18, 2] [0, 1, 3, 4, 5, 6, 7, 8, 9, 10, 11, 12, 13, 14, 15, 16, 19, 20] [0, 1, 20, 2, 3, 4, 5, 6, 7, 8, 9, 10, 11, 12, 13, 14, 15, 18, 19, 16, 17] rfl rfl (by decide) (by decide) (by decide) rfl rfl (fun H locs hP hD hS => ?_)
    refine lv_aload_n hx hb dX10_valley_56 rfl (lv_at hl 2 rfl) ?_
    refine zget (v := .ref (a0 8)) hx hb hown hT hK hP inX10 rfl smX10 0 rfl 8 (by decide) tb_439 rfl dX10_valley_57 ?_
    refine lv_iconst (v := 0) hx hb dX10_valley_60 (by decide) ?_
    refine zput (fs' := fs_Entries a6 (upd (zI s6) 0 0) (zL s6)) (ws' := (wd_CH_valley cy o0 a0 (va_up (va_up a0 3 (a0 4)) 4 (a0 3)) (upd (zI s0) 1 0) (zL s0) a1 (zI z1.2.1) (zL z1.2.1) a2 (zI z1.2.2.1) (zL z1.2.2.1) (zB z1.2.2.1 1) (zA z1.2.2.1 2) (zB z1.2.2.1 4) (zA z1.2.2.1 5) (zA z1.2.2.1 6) (zA z1.2.2.1 7) (zA z1.2.2.1 10) (zB z1.2.2.1 13) (zA z1.2.2.1 14) a3 (zI z1.2.2.2) (zL z1.2.2.2) (zA z1.2.2.2 1) (zA z1.2.2.2 2) (zB z1.2.2.2 3) f4 a5 (zI z4) (zL z4) (zA z4 5) a6 (upd (zI s6) 0 0) (zL s6) a7 (zI s7) (zL s7))) hx hb hown hT hK hP hD hS inX4 rfl smX4 tyX4_ok nmX4 19 rfl 0 (by decide) tb_208 rfl rfl rfl (Nat.le_of_ble_eq_true rfl) rfl rfl dX10_valley_61 (fun H locs hP hD hS => ?_)
    refine lv_aload_n hx hb dX10_valley_64 rfl (lv_at hl 2 rfl) ?_
    refine lv_iconst (v := 0) hx hb dX10_valley_65 (by decide) ?_
    refine zput (fs' := fs_CH (va_up (va_up a0 3 (a0 4)) 4 (a0 3)) (upd (upd (zI s0) 1 0) 11 0) (zL s0)) (ws' := (wd_CH_valley cy o0 a0 (va_up (va_up a0 3 (a0 4)) 4 (a0 3)) (upd (upd (zI s0) 1 0) 11 0) (zL s0) a1 (zI z1.2.1) (zL z1.2.1) a2 (zI z1.2.2.1) (zL z1.2.2.1) (zB z1.2.2.1 1) (zA z1.2.2.1 2) (zB z1.2.2.1 4) (zA z1.2.2.1 5) (zA z1.2.2.1 6) (zA z1.2.2.1 7) (zA z1.2.2.1 10) (zB z1.2.2.1 13) (zA z1.2.2.1 14) a3 (zI z1.2.2.2) (zL z1.2.2.2) (zA z1.2.2.2 1) (zA z1.2.2.2 2) (zB z1.2.2.2 3) f4 a5 (zI z4) (zL z4) (zA z4 5) a6 (upd (zI s6) 0 0) (zL s6) a7 (zI s7) (zL s7))) hx hb hown hT hK hP hD hS inX10 rfl smX10 tyX10_ok nmX10 0 rfl 11 (by decide) tb_442 rfl rfl rfl (Nat.le_of_ble_eq_true rfl) rfl rfl dX10_valley_66 (fun H locs hP hD hS => ?_)
    refine lv_aload_n hx hb dX10_valley_69 rfl (lv_at hl 2 rfl) ?_
    refine lv_iconst (v := 0) hx hb dX10_valley_70 (by decide) ?_
    refine zput (fs' := fs_CH (va_up (va_up a0 3 (a0 4)) 4 (a0 3)) (upd (upd (upd (zI s0) 1 0) 11 0) 7 0) (zL s0)) (ws' := (wd_CH_valley cy o0 a0 (va_up (va_up a0 3 (a0 4)) 4 (a0 3)) (upd (upd (upd (zI s0) 1 0) 11 0) 7 0) (zL s0) a1 (zI z1.2.1) (zL z1.2.1) a2 (zI z1.2.2.1) (zL z1.2.2.1) (zB z1.2.2.1 1) (zA z1.2.2.1 2) (zB z1.2.2.1 4) (zA z1.2.2.1 5) (zA z1.2.2.1 6) (zA z1.2.2.1 7) (zA z1.2.2.1 10) (zB z1.2.2.1 13) (zA z1.2.2.1 14) a3 (zI z1.2.2.2) (zL z1.2.2.2) (zA z1.2.2.2 1) (zA z1.2.2.2 2) (zB z1.2.2.2 3) f4 a5 (zI z4) (zL z4) (zA z4 5) a6 (upd (zI s6) 0 0) (zL s6) a7 (zI s7) (zL s7))) hx hb hown hT hK hP hD hS inX10 rfl smX10 tyX10_ok nmX10 0 rfl 7 (by decide) tb_438 rfl rfl rfl (Nat.le_of_ble_eq_true rfl) rfl rfl dX10_valley_71 (fun H locs hP hD hS => ?_)
    refine lv_aload_n hx hb dX10_valley_74 rfl (lv_at hl 2 rfl) ?_
    refine zget (v := .ref (a0 14)) hx hb hown hT hK hP inX10 rfl smX10 0 rfl 14 (by decide) tb_445 rfl dX10_valley_75 ?_
    refine lv_iconst (v := 0) hx hb dX10_valley_78 (by decide) ?_
    refine zput (fs' := fs_Parting a7 (upd (zI s7) 0 0) (zL s7)) (ws' := (wd_CH_valley cy o0 a0 (va_up (va_up a0 3 (a0 4)) 4 (a0 3)) (upd (upd (upd (zI s0) 1 0) 11 0) 7 0) (zL s0) a1 (zI z1.2.1) (zL z1.2.1) a2 (zI z1.2.2.1) (zL z1.2.2.1) (zB z1.2.2.1 1) (zA z1.2.2.1 2) (zB z1.2.2.1 4) (zA z1.2.2.1 5) (zA z1.2.2.1 6) (zA z1.2.2.1 7) (zA z1.2.2.1 10) (zB z1.2.2.1 13) (zA z1.2.2.1 14) a3 (zI z1.2.2.2) (zL z1.2.2.2) (zA z1.2.2.2 1) (zA z1.2.2.2 2) (zB z1.2.2.2 3) f4 a5 (zI z4) (zL z4) (zA z4 5) a6 (upd (zI s6) 0 0) (zL s6) a7 (upd (zI s7) 0 0) (zL s7))) hx hb hown hT hK hP hD hS inX5 rfl smX5 tyX5_ok nmX5 20 rfl 0 (by decide) tb_335 rfl rfl rfl (Nat.le_of_ble_eq_true rfl) rfl rfl dX10_valley_79 (fun H locs hP hD hS => ?_)
    refine lv_aload_n hx hb dX10_valley_82 rfl (lv_at hl 2 rfl) ?_
    refine zget (v := .ref (a0 4)) hx hb hown hT hK hP inX10 rfl smX10 0 rfl 3 (by decide) tb_434 rfl dX10_valley_83 ?_
    refine zget (v := .int (zI z1.2.2.1 3)) hx hb hown hT hK hP inX9 rfl smX9 2 rfl 3 (by decide) tb_105 rfl dX10_valley_86 ?_
    cases hf
    exact zewi hx hb hr hk hK hP hD hS dX10_valley_89
  · have hf := zif_t hb_3 hf
    refine lv_iconst (v := (-1)) hx hb dX10_valley_25 (by decide) ?_
    cases hf
    exact zewi hx hb hr hk hK hP hD hS dX10_valley_26
set_option maxHeartbeats 4000000 in
set_option maxRecDepth 100000 in
theorem c_CH_valley {l : Launch} {dC : Nat → ClassId} {dI : Nat → Nat → Nat} {cy : Nat → ClassId} {sz : Nat} {N : Nat} (o0 : Nat) (a0 : Nat → Nat) (s0 : zSt) (a1 : Nat → Nat) (s1 : zSt) (a2 : Nat → Nat) (s2 : zSt) (a3 : Nat → Nat) (s3 : zSt) (f4 : Nat → Int32) (a5 : Nat → Nat) (s5 : zSt) (a6 : Nat → Nat) (s6 : zSt) (a7 : Nat → Nat) (s7 : zSt) {y : Int32 × zSt × zSt × zSt × zSt × zSt × zSt × zSt × Bool} (hf : CH_valley N s0 s1 s2 s3 f4 s5 s6 s7 = some y) : Met l yX10_valley (.code yX10_valley cX10_valley 3 (some .int) :: zt) rm_CH_valley (va_Pc [.ref o0] (zPre (dC, dI) cy (wd_CH_valley cy o0 a0 a0 (zI s0) (zL s0) a1 (zI s1) (zL s1) a2 (zI s2) (zL s2) (zB s2 1) (zA s2 2) (zB s2 4) (zA s2 5) (zA s2 6) (zA s2 7) (zA s2 10) (zB s2 13) (zA s2 14) a3 (zI s3) (zL s3) (zA s3 1) (zA s3 2) (zB s3 3) f4 a5 (zI s5) (zL s5) (zA s5 5) a6 (zI s6) (zL s6) a7 (zI s7) (zL s7)) sz)) (zQi y.1 (dC, dI) cy (wd_CH_valley cy o0 a0 (cond y.2.2.2.2.2.2.2.2 (va_up (va_up a0 3 (a0 4)) 4 (a0 3)) a0) (zI y.2.1) (zL y.2.1) a1 (zI y.2.2.1) (zL y.2.2.1) a2 (zI y.2.2.2.1) (zL y.2.2.2.1) (zB y.2.2.2.1 1) (zA y.2.2.2.1 2) (zB y.2.2.2.1 4) (zA y.2.2.2.1 5) (zA y.2.2.2.1 6) (zA y.2.2.2.1 7) (zA y.2.2.2.1 10) (zB y.2.2.2.1 13) (zA y.2.2.2.1 14) a3 (zI y.2.2.2.2.1) (zL y.2.2.2.2.1) (zA y.2.2.2.2.1 1) (zA y.2.2.2.2.1 2) (zB y.2.2.2.2.1 3) f4 a5 (zI y.2.2.2.2.2.1) (zL y.2.2.2.2.2.1) (zA y.2.2.2.2.2.1 5) a6 (zI y.2.2.2.2.2.2.1) (zL y.2.2.2.2.2.2.1) a7 (zI y.2.2.2.2.2.2.2.1) (zL y.2.2.2.2.2.2.2.1)) (va_A (wd_CH_valley cy o0 a0 a0 (zI s0) (zL s0) a1 (zI s1) (zL s1) a2 (zI s2) (zL s2) (zB s2 1) (zA s2 2) (zB s2 4) (zA s2 5) (zA s2 6) (zA s2 7) (zA s2 10) (zB s2 13) (zA s2 14) a3 (zI s3) (zL s3) (zA s3 1) (zA s3 2) (zB s3 3) f4 a5 (zI s5) (zL s5) (zA s5 5) a6 (zI s6) (zL s6) a7 (zI s7) (zL s7)) sz)) 0 0 (va_A (wd_CH_valley cy o0 a0 a0 (zI s0) (zL s0) a1 (zI s1) (zL s1) a2 (zI s2) (zL s2) (zB s2 1) (zA s2 2) (zB s2 4) (zA s2 5) (zA s2 6) (zA s2 7) (zA s2 10) (zB s2 13) (zA s2 14) a3 (zI s3) (zL s3) (zA s3 1) (zA s3 2) (zB s3 3) f4 a5 (zI s5) (zL s5) (zA s5 5) a6 (zI s6) (zL s6) a7 (zI s7) (zL s7)) sz) :=
  zentW (Qw := fun A => (zQi y.1 (dC, dI) cy (wd_CH_valley cy o0 a0 (cond y.2.2.2.2.2.2.2.2 (va_up (va_up a0 3 (a0 4)) 4 (a0 3)) a0) (zI y.2.1) (zL y.2.1) a1 (zI y.2.2.1) (zL y.2.2.1) a2 (zI y.2.2.2.1) (zL y.2.2.2.1) (zB y.2.2.2.1 1) (zA y.2.2.2.1 2) (zB y.2.2.2.1 4) (zA y.2.2.2.1 5) (zA y.2.2.2.1 6) (zA y.2.2.2.1 7) (zA y.2.2.2.1 10) (zB y.2.2.2.1 13) (zA y.2.2.2.1 14) a3 (zI y.2.2.2.2.1) (zL y.2.2.2.2.1) (zA y.2.2.2.2.1 1) (zA y.2.2.2.2.1 2) (zB y.2.2.2.2.1 3) f4 a5 (zI y.2.2.2.2.2.1) (zL y.2.2.2.2.2.1) (zA y.2.2.2.2.2.1 5) a6 (zI y.2.2.2.2.2.2.1) (zL y.2.2.2.2.2.2.1) a7 (zI y.2.2.2.2.2.2.2.1) (zL y.2.2.2.2.2.2.2.1)) A)) (by decide +kernel) (Nat.le_of_ble_eq_true rfl) (fun p e s m below meth c A C0 hA hP hD hS ls hl => k_CH_valley_b0 C0 s0 s1 s2 s3 f4 s5 s6 s7 hA hP hD hS hf ls hl)
def wd_CH_fault (cy : Nat → ClassId) (o0 : Nat) (a0 : Nat → Nat) (g0 : Nat → Int32) (h0 : Nat → Int64) (a1 : Nat → Nat) (g1 : Nat → Int32) (h1 : Nat → Int64) : va_W := [(o0, .inr (10, fs_CH a0 g0 h0)), ((a0 2), .inr (8, fs_Teller a1 g1 h1))]
def rm_CH_fault : Room := { frames := 1, cells := 0, slots := 0, locals := 40 }
set_option maxHeartbeats 4000000 in
set_option maxRecDepth 100000 in
theorem k_CH_fault_b0 {p : Program} {l : Launch} {e : Env} {s : State} {m : MethodId} {args : Array Value} {below : List Frame} {meth : Method} {c : Code} {dC : Nat → ClassId} {dI : Nat → Nat → Nat} {cy : Nat → ClassId} {o0 : Nat} {a0 : Nat → Nat} {a1 : Nat → Nat} {N : Nat} {y : Int32} (C0 : zCx p s m args meth c cX10_fault 2 (some .int) RX10 (dC, dI) cy) (s0 : zSt) (s1 : zSt) (v1 : Int32) (hP : va_P (dC, dI) vwCl (wd_CH_fault cy o0 a0 (zI s0) (zL s0) a1 (zI s1) (zL s1)) s.heap) (hf : CH_fault_b0 N s0 s1 v1 = some y) (ls : Array Slot) (hl : lv_has ls 2 [(0, .ref o0), (1, .int v1)]) : W p l e rm_CH_fault s m args below meth c s.heap [] 0 0 (MQ below (zSi y) args s 0 0 (fun _ => False)) (F0 m 0 ls []) := by
  obtain ⟨hx, hb, hr, hml, hown, hT, hk, hK⟩ := id C0
  refine lv_iload_n hx hb dX10_fault_0 rfl (lv_at hl 1 rfl) ?_
  by_cases hw10 : v1 = 0
  · have hf := zif_t hw10 hf
    refine lv_lookup (off := 27) (tgt := 28) hx hb dX10_fault_1 (by decide) (by rw [hw10]; decide) (by decide) ?_
    refine lv_aload_n hx hb dX10_fault_28 rfl (lv_at hl 0 rfl) ?_
    refine zget (v := .ref (a0 2)) hx hb hown hT hK hP inX10 rfl smX10 0 rfl 2 (by decide) tb_433 rfl dX10_fault_29 ?_
    refine zget (v := .int (zI s1 0)) hx hb hown hT hK hP inX8 rfl smX8 1 rfl 0 (by decide) tb_67 rfl dX10_fault_32 ?_
    cases hf
    exact zeri hx hb hr hk dX10_fault_35
  · have hf := zif_f hw10 hf
    by_cases hw11 : v1 = 1
    · have hf := zif_t hw11 hf
      refine lv_lookup (off := 35) (tgt := 36) hx hb dX10_fault_1 (by decide) (by rw [hw11]; decide) (by decide) ?_
      refine lv_aload_n hx hb dX10_fault_36 rfl (lv_at hl 0 rfl) ?_
      refine zget (v := .ref (a0 2)) hx hb hown hT hK hP inX10 rfl smX10 0 rfl 2 (by decide) tb_433 rfl dX10_fault_37 ?_
      refine zget (v := .int (zI s1 1)) hx hb hown hT hK hP inX8 rfl smX8 1 rfl 1 (by decide) tb_69 rfl dX10_fault_40 ?_
      cases hf
      exact zeri hx hb hr hk dX10_fault_43
    · have hf := zif_f hw11 hf
      refine lv_lookup (off := 43) (tgt := 44) hx hb dX10_fault_1 (by decide) (zlk2 hw10 hw11) (by decide) ?_
      refine lv_iconst (v := (-1)) hx hb dX10_fault_44 (by decide) ?_
      cases hf
      exact zeri hx hb hr hk dX10_fault_45
set_option maxHeartbeats 4000000 in
set_option maxRecDepth 100000 in
theorem c_CH_fault {l : Launch} {dC : Nat → ClassId} {dI : Nat → Nat → Nat} {cy : Nat → ClassId} {N : Nat} (o0 : Nat) (a0 : Nat → Nat) (s0 : zSt) (a1 : Nat → Nat) (s1 : zSt) (v1 : Int32) {y : Int32} (hf : CH_fault N s0 s1 v1 = some y) : Met l yX10_fault (.code yX10_fault cX10_fault 2 (some .int) :: zt) rm_CH_fault (va_Pc [.ref o0, .int v1] (zRd (dC, dI) cy (wd_CH_fault cy o0 a0 (zI s0) (zL s0) a1 (zI s1) (zL s1)))) (zSi y) 0 0 (fun _ => False) :=
  zentR (by decide +kernel) (Nat.le_of_ble_eq_true rfl) (fun p e s m below meth c C0 hP ls hl => k_CH_fault_b0 C0 s0 s1 v1 hP hf ls hl)
def wd_CH_bell (cy : Nat → ClassId) (o0 : Nat) (a0 : Nat → Nat) (g0 : Nat → Int32) (h0 : Nat → Int64) (a1 : Nat → Nat) (g1 : Nat → Int32) (h1 : Nat → Int64) (x1_5 : Nat → Int32) (x1_6 : Nat → Int32) (x1_7 : Nat → Int32) (a2 : Nat → Nat) (g2 : Nat → Int32) (h2 : Nat → Int64) (x2_5 : Nat → Int32) : va_W := [(o0, .inr (10, fs_CH a0 g0 h0)), ((a0 3), .inr (9, fs_Valley a1 g1 h1)), (a1 5, .inl (cy 0, 11, .inl x1_5)), (a1 6, .inl (cy 0, 11, .inl x1_6)), (a1 7, .inl (cy 0, 11, .inl x1_7)), ((a0 5), .inr (3, fs_Earnest a2 g2 h2)), (a2 5, .inl (cy 0, 11, .inl x2_5))]
def rm_CH_bell : Room := { frames := 3, cells := 0, slots := 0, locals := 84 }
theorem rm_ok_CH_bell_Earnest_toneOf : rm_Earnest_toneOf.cells = 0 ∧ rm_Earnest_toneOf.slots = 0 ∧ rm_Earnest_toneOf.frames + 1 ≤ rm_CH_bell.frames ∧ 8 + (3 + 11) + rm_Earnest_toneOf.locals ≤ rm_CH_bell.locals := by decide
theorem rm_ok_CH_bell_Valley_hasBell : rm_Valley_hasBell.cells = 0 ∧ rm_Valley_hasBell.slots = 0 ∧ rm_Valley_hasBell.frames + 1 ≤ rm_CH_bell.frames ∧ 8 + (2 + 11) + rm_Valley_hasBell.locals ≤ rm_CH_bell.locals := by decide
set_option maxHeartbeats 4000000 in
set_option maxRecDepth 100000 in
theorem k_CH_bell_b0 {p : Program} {l : Launch} {e : Env} {s : State} {m : MethodId} {args : Array Value} {below : List Frame} {meth : Method} {c : Code} {dC : Nat → ClassId} {dI : Nat → Nat → Nat} {cy : Nat → ClassId} {o0 : Nat} {a0 : Nat → Nat} {a1 : Nat → Nat} {a2 : Nat → Nat} {N : Nat} {y : Int32} (C0 : zCx p s m args meth c cX10_bell 3 (some .int) RX10 (dC, dI) cy) (s0 : zSt) (s1 : zSt) (s2 : zSt) (v1 : Int32) (v2 : Int32) (hP : va_P (dC, dI) vwCl (wd_CH_bell cy o0 a0 (zI s0) (zL s0) a1 (zI s1) (zL s1) (zA s1 5) (zA s1 6) (zA s1 7) a2 (zI s2) (zL s2) (zA s2 5)) s.heap) (hf : CH_bell_b0 N s0 s1 s2 v1 v2 = some y) (ls : Array Slot) (hl : lv_has ls 3 [(0, .ref o0), (1, .int v1), (2, .int v2)]) : W p l e rm_CH_bell s m args below meth c s.heap [] 0 0 (MQ below (zSi y) args s 0 0 (fun _ => False)) (F0 m 0 ls []) := by
  obtain ⟨hx, hb, hr, hml, hown, hT, hk, hK⟩ := id C0
  refine lv_aload_n hx hb dX10_bell_0 rfl (lv_at hl 0 rfl) ?_
  refine zget (v := .ref (a0 3)) hx hb hown hT hK hP inX10 rfl smX10 0 rfl 3 (by decide) tb_434 rfl dX10_bell_1 ?_
  refine lv_iload_n hx hb dX10_bell_4 rfl (lv_at hl 1 rfl) ?_
  obtain ⟨z1, hc2, hf⟩ := zbd_some hf
  refine zri (zV (As := [.int v1]) hx hb hml hown hT hl.1 (c_Valley_hasBell (a0 3) a1 s1 v1 hc2) zY_Valley_hasBell tb_652 (zpR hK hP [1] rfl 0 9 rfl rfl rfl) rm_ok_CH_bell_Valley_hasBell rfl rfl (Nat.le_of_ble_eq_true rfl) dX10_bell_5 ⟨Nat.zero_le _, Nat.zero_le _⟩) ?_
  refine lv_if_ne (tgt := 14) hx hb dX10_bell_8 (by decide) (fun hb_3 => ?_) (fun hb_3 => ?_)
  · have hf := zif_f hb_3 hf
    refine lv_iload_n hx hb dX10_bell_14 rfl (lv_at hl 2 rfl) ?_
    by_cases hw40 : v2 = 0
    · have hf := zif_t hw40 hf
      refine lv_tableIn (off := 37) (tgt := 52) hx hb dX10_bell_15 (by rw [hw40]; decide) (by rw [hw40]; decide) (by rw [hw40]; decide) (by decide) ?_
      refine lv_aload_n hx hb dX10_bell_52 rfl (lv_at hl 0 rfl) ?_
      refine zget (v := .ref (a0 5)) hx hb hown hT hK hP inX10 rfl smX10 0 rfl 5 (by decide) tb_436 rfl dX10_bell_53 ?_
      refine lv_aload_n hx hb dX10_bell_56 rfl (lv_at hl 0 rfl) ?_
      refine zget (v := .ref (a0 3)) hx hb hown hT hK hP inX10 rfl smX10 0 rfl 3 (by decide) tb_434 rfl dX10_bell_57 ?_
      refine lv_iload_n hx hb dX10_bell_60 rfl (lv_at hl 1 rfl) ?_
      obtain ⟨z5, hc6, hf⟩ := zbd_some hf
      refine zri (zV (As := [.ref (a0 3), .int v1]) hx hb hml hown hT hl.1 (c_Earnest_toneOf (a0 5) a2 s2 (a0 3) a1 s1 v1 hc6) zY_Earnest_toneOf tb_657 (zpR hK hP [5, 6, 1, 2] rfl 0 3 rfl rfl rfl) rm_ok_CH_bell_Earnest_toneOf rfl rfl (Nat.le_of_ble_eq_true rfl) dX10_bell_61 ⟨Nat.zero_le _, Nat.zero_le _⟩) ?_
      cases hf
      exact zeri hx hb hr hk dX10_bell_64
    · have hf := zif_f hw40 hf
      by_cases hw41 : v2 = 1
      · have hf := zif_t hw41 hf
        refine lv_tableIn (off := 50) (tgt := 65) hx hb dX10_bell_15 (by rw [hw41]; decide) (by rw [hw41]; decide) (by rw [hw41]; decide) (by decide) ?_
        refine lv_aload_n hx hb dX10_bell_65 rfl (lv_at hl 0 rfl) ?_
        refine zget (v := .ref (a0 3)) hx hb hown hT hK hP inX10 rfl smX10 0 rfl 3 (by decide) tb_434 rfl dX10_bell_66 ?_
        refine zget (v := .ref (a1 6)) hx hb hown hT hK hP inX9 rfl smX9 1 rfl 6 (by decide) tb_116 rfl dX10_bell_69 ?_
        refine lv_iload_n hx hb dX10_bell_72 rfl (lv_at hl 1 rfl) ?_
        obtain ⟨hi7, hf⟩ := zck_some hf
        refine va_iald hx hb hK.1 hP 3 0 rfl rfl hi7 dX10_bell_73 ?_
        cases hf
        exact zeri hx hb hr hk dX10_bell_74
      · have hf := zif_f hw41 hf
        by_cases hw42 : v2 = 2
        · have hf := zif_t hw42 hf
          refine lv_tableIn (off := 60) (tgt := 75) hx hb dX10_bell_15 (by rw [hw42]; decide) (by rw [hw42]; decide) (by rw [hw42]; decide) (by decide) ?_
          refine lv_aload_n hx hb dX10_bell_75 rfl (lv_at hl 0 rfl) ?_
          refine zget (v := .ref (a0 3)) hx hb hown hT hK hP inX10 rfl smX10 0 rfl 3 (by decide) tb_434 rfl dX10_bell_76 ?_
          refine zget (v := .ref (a1 7)) hx hb hown hT hK hP inX9 rfl smX9 1 rfl 7 (by decide) tb_118 rfl dX10_bell_79 ?_
          refine lv_iload_n hx hb dX10_bell_82 rfl (lv_at hl 1 rfl) ?_
          obtain ⟨hi8, hf⟩ := zck_some hf
          refine va_iald hx hb hK.1 hP 4 0 rfl rfl hi8 dX10_bell_83 ?_
          cases hf
          exact zeri hx hb hr hk dX10_bell_84
        · have hf := zif_f hw42 hf
          by_cases hw43 : v2 = 3
          · have hf := zif_t hw43 hf
            refine lv_tableIn (off := 70) (tgt := 85) hx hb dX10_bell_15 (by rw [hw43]; decide) (by rw [hw43]; decide) (by rw [hw43]; decide) (by decide) ?_
            refine lv_aload_n hx hb dX10_bell_85 rfl (lv_at hl 0 rfl) ?_
            refine zget (v := .ref (a0 5)) hx hb hown hT hK hP inX10 rfl smX10 0 rfl 5 (by decide) tb_436 rfl dX10_bell_86 ?_
            refine zget (v := .ref (a2 5)) hx hb hown hT hK hP inX3 rfl smX3 5 rfl 5 (by decide) tb_184 rfl dX10_bell_89 ?_
            refine lv_iload_n hx hb dX10_bell_92 rfl (lv_at hl 1 rfl) ?_
            obtain ⟨hi9, hf⟩ := zck_some hf
            refine va_iald hx hb hK.1 hP 6 0 rfl rfl hi9 dX10_bell_93 ?_
            cases hf
            exact zeri hx hb hr hk dX10_bell_94
          · have hf := zif_f hw43 hf
            by_cases hw44 : v2 = 4
            · have hf := zif_t hw44 hf
              refine lv_tableIn (off := 80) (tgt := 95) hx hb dX10_bell_15 (by rw [hw44]; decide) (by rw [hw44]; decide) (by rw [hw44]; decide) (by decide) ?_
              refine lv_aload_n hx hb dX10_bell_95 rfl (lv_at hl 0 rfl) ?_
              refine zget (v := .ref (a0 5)) hx hb hown hT hK hP inX10 rfl smX10 0 rfl 5 (by decide) tb_436 rfl dX10_bell_96 ?_
              refine zget (v := .int (zI s2 0)) hx hb hown hT hK hP inX3 rfl smX3 5 rfl 0 (by decide) tb_174 rfl dX10_bell_99 ?_
              refine lv_iload_n hx hb dX10_bell_102 rfl (lv_at hl 1 rfl) ?_
              refine lv_ishr hx hb dX10_bell_103 ?_
              refine lv_iconst (v := 1) hx hb dX10_bell_104 (by decide) ?_
              refine lv_iand hx hb dX10_bell_105 ?_
              cases hf
              exact zeri hx hb hr hk dX10_bell_106
            · have hf := zif_f hw44 hf
              by_cases hw45 : v2 = 5
              · have hf := zif_t hw45 hf
                refine lv_tableIn (off := 92) (tgt := 107) hx hb dX10_bell_15 (by rw [hw45]; decide) (by rw [hw45]; decide) (by rw [hw45]; decide) (by decide) ?_
                refine lv_aload_n hx hb dX10_bell_107 rfl (lv_at hl 0 rfl) ?_
                refine zget (v := .ref (a0 5)) hx hb hown hT hK hP inX10 rfl smX10 0 rfl 5 (by decide) tb_436 rfl dX10_bell_108 ?_
                refine zget (v := .int (zI s2 1)) hx hb hown hT hK hP inX3 rfl smX3 5 rfl 1 (by decide) tb_176 rfl dX10_bell_111 ?_
                refine lv_iload_n hx hb dX10_bell_114 rfl (lv_at hl 1 rfl) ?_
                refine lv_ishr hx hb dX10_bell_115 ?_
                refine lv_iconst (v := 1) hx hb dX10_bell_116 (by decide) ?_
                refine lv_iand hx hb dX10_bell_117 ?_
                cases hf
                exact zeri hx hb hr hk dX10_bell_118
              · have hf := zif_f hw45 hf
                refine lv_tableOut (tgt := 119) hx hb dX10_bell_15 (zsw 5 (by decide) (fun k hk => ?_)) (by decide) ?_
                · rcases (show k = 0 ∨ k = 1 ∨ k = 2 ∨ k = 3 ∨ k = 4 ∨ k = 5 by omega) with rfl | rfl | rfl | rfl | rfl | rfl
                  · exact hw40
                  · exact hw41
                  · exact hw42
                  · exact hw43
                  · exact hw44
                  · exact hw45
                · refine lv_bipush (v := (-2)) hx hb dX10_bell_119 (by decide) ?_
                  cases hf
                  exact zeri hx hb hr hk dX10_bell_121
  · have hf := zif_t hb_3 hf
    refine lv_bipush (v := (-2)) hx hb dX10_bell_11 (by decide) ?_
    cases hf
    exact zeri hx hb hr hk dX10_bell_13
set_option maxHeartbeats 4000000 in
set_option maxRecDepth 100000 in
theorem c_CH_bell {l : Launch} {dC : Nat → ClassId} {dI : Nat → Nat → Nat} {cy : Nat → ClassId} {N : Nat} (o0 : Nat) (a0 : Nat → Nat) (s0 : zSt) (a1 : Nat → Nat) (s1 : zSt) (a2 : Nat → Nat) (s2 : zSt) (v1 : Int32) (v2 : Int32) {y : Int32} (hf : CH_bell N s0 s1 s2 v1 v2 = some y) : Met l yX10_bell (.code yX10_bell cX10_bell 3 (some .int) :: zt) rm_CH_bell (va_Pc [.ref o0, .int v1, .int v2] (zRd (dC, dI) cy (wd_CH_bell cy o0 a0 (zI s0) (zL s0) a1 (zI s1) (zL s1) (zA s1 5) (zA s1 6) (zA s1 7) a2 (zI s2) (zL s2) (zA s2 5)))) (zSi y) 0 0 (fun _ => False) :=
  zentR (by decide +kernel) (Nat.le_of_ble_eq_true rfl) (fun p e s m below meth c C0 hP ls hl => k_CH_bell_b0 C0 s0 s1 s2 v1 v2 hP hf ls hl)
def wd_CH_hear (cy : Nat → ClassId) (o0 : Nat) (a0 : Nat → Nat) (g0 : Nat → Int32) (h0 : Nat → Int64) (a1 : Nat → Nat) (g1 : Nat → Int32) (h1 : Nat → Int64) (x1_5 : Nat → Int32) (x1_6 : Nat → Int32) (x1_14 : Nat → Int32) (a2 : Nat → Nat) (g2 : Nat → Int32) (h2 : Nat → Int64) (x2_5 : Nat → Int32) : va_W := [(o0, .inr (10, fs_CH a0 g0 h0)), ((a0 3), .inr (9, fs_Valley a1 g1 h1)), (a1 5, .inl (cy 0, 11, .inl x1_5)), (a1 6, .inl (cy 0, 11, .inl x1_6)), (a1 14, .inl (cy 0, 4, .inl x1_14)), ((a0 5), .inr (3, fs_Earnest a2 g2 h2)), (a2 5, .inl (cy 0, 11, .inl x2_5))]
def rm_CH_hear : Room := { frames := 4, cells := 0, slots := 0, locals := 111 }
theorem rm_ok_CH_hear_CH_within : rm_CH_within.cells = 0 ∧ rm_CH_within.slots = 0 ∧ rm_CH_within.frames + 1 ≤ rm_CH_hear.frames ∧ 8 + (3 + 11) + rm_CH_within.locals ≤ rm_CH_hear.locals := by decide
theorem rm_ok_CH_hear_Earnest_loudness : rm_Earnest_loudness.cells = 0 ∧ rm_Earnest_loudness.slots = 0 ∧ rm_Earnest_loudness.frames + 1 ≤ rm_CH_hear.frames ∧ 8 + (6 + 11) + rm_Earnest_loudness.locals ≤ rm_CH_hear.locals := by decide
theorem rm_ok_CH_hear_Valley_hasEar : rm_Valley_hasEar.cells = 0 ∧ rm_Valley_hasEar.slots = 0 ∧ rm_Valley_hasEar.frames + 1 ≤ rm_CH_hear.frames ∧ 8 + (2 + 11) + rm_Valley_hasEar.locals ≤ rm_CH_hear.locals := by decide
set_option maxHeartbeats 4000000 in
set_option maxRecDepth 100000 in
theorem k_CH_hear_b0 {p : Program} {l : Launch} {e : Env} {s : State} {m : MethodId} {args : Array Value} {below : List Frame} {meth : Method} {c : Code} {dC : Nat → ClassId} {dI : Nat → Nat → Nat} {cy : Nat → ClassId} {o0 : Nat} {a0 : Nat → Nat} {a1 : Nat → Nat} {a2 : Nat → Nat} {N : Nat} {y : Int32} (C0 : zCx p s m args meth c cX10_hear 3 (some .int) RX10 (dC, dI) cy) (s0 : zSt) (s1 : zSt) (s2 : zSt) (v1 : Int32) (v2 : Int32) (hP : va_P (dC, dI) vwCl (wd_CH_hear cy o0 a0 (zI s0) (zL s0) a1 (zI s1) (zL s1) (zA s1 5) (zA s1 6) (zA s1 14) a2 (zI s2) (zL s2) (zA s2 5)) s.heap) (hf : CH_hear_b0 N s0 s1 s2 v1 v2 = some y) (ls : Array Slot) (hl : lv_has ls 3 [(0, .ref o0), (1, .int v1), (2, .int v2)]) : W p l e rm_CH_hear s m args below meth c s.heap [] 0 0 (MQ below (zSi y) args s 0 0 (fun _ => False)) (F0 m 0 ls []) := by
  obtain ⟨hx, hb, hr, hml, hown, hT, hk, hK⟩ := id C0
  refine lv_aload_n hx hb dX10_hear_0 rfl (lv_at hl 0 rfl) ?_
  refine zget (v := .ref (a0 3)) hx hb hown hT hK hP inX10 rfl smX10 0 rfl 3 (by decide) tb_434 rfl dX10_hear_1 ?_
  refine lv_iload_n hx hb dX10_hear_4 rfl (lv_at hl 1 rfl) ?_
  obtain ⟨z1, hc2, hf⟩ := zbd_some hf
  refine zri (zV (As := [.int v1]) hx hb hml hown hT hl.1 (c_Valley_hasEar (a0 3) a1 s1 v1 hc2) zY_Valley_hasEar tb_668 (zpR hK hP [1] rfl 0 9 rfl rfl rfl) rm_ok_CH_hear_Valley_hasEar rfl rfl (Nat.le_of_ble_eq_true rfl) dX10_hear_5 ⟨Nat.zero_le _, Nat.zero_le _⟩) ?_
  refine lv_if_eq (tgt := 21) hx hb dX10_hear_8 (by decide) (fun hb_3 => ?_) (fun hb_3 => ?_)
  · have hf := zif_t hb_3 hf
    refine lv_iconst (v := (-1)) hx hb dX10_hear_21 (by decide) ?_
    cases hf
    exact zeri hx hb hr hk dX10_hear_22
  · have hf := zif_f hb_3 hf
    refine lv_iload_n hx hb dX10_hear_11 rfl (lv_at hl 2 rfl) ?_
    refine lv_iconst (v := 0) hx hb dX10_hear_12 (by decide) ?_
    refine lv_bipush (v := 11) hx hb dX10_hear_13 (by decide) ?_
    obtain ⟨z4, hc5, hf⟩ := zbd_some hf
    refine zri (zS (As := [.int v2, .int 0, .int 11]) hx hb hml hown hT hl.1 (c_CH_within v2 0 11 hc5) zY_CH_within tb_495 (zpS hK hP [] rfl) rm_ok_CH_hear_CH_within rfl rfl (Nat.le_of_ble_eq_true rfl) dX10_hear_15 ⟨Nat.zero_le _, Nat.zero_le _⟩) ?_
    refine lv_if_ne (tgt := 23) hx hb dX10_hear_18 (by decide) (fun hb_6 => ?_) (fun hb_6 => ?_)
    · have hf := zif_f hb_6 hf
      refine lv_aload_n hx hb dX10_hear_23 rfl (lv_at hl 0 rfl) ?_
      refine zget (v := .ref (a0 5)) hx hb hown hT hK hP inX10 rfl smX10 0 rfl 5 (by decide) tb_436 rfl dX10_hear_24 ?_
      refine lv_aload_n hx hb dX10_hear_27 rfl (lv_at hl 0 rfl) ?_
      refine zget (v := .ref (a0 3)) hx hb hown hT hK hP inX10 rfl smX10 0 rfl 3 (by decide) tb_434 rfl dX10_hear_28 ?_
      refine lv_iload_n hx hb dX10_hear_31 rfl (lv_at hl 1 rfl) ?_
      refine lv_iload_n hx hb dX10_hear_32 rfl (lv_at hl 2 rfl) ?_
      obtain ⟨z7, hc8, hf⟩ := zbd_some hf
      refine zri (zV (As := [.ref (a0 3), .int v1, .int v2]) hx hb hml hown hT hl.1 (c_Earnest_loudness (a0 5) a2 s2 (a0 3) a1 s1 v1 v2 hc8) zY_Earnest_loudness tb_672 (zpR hK hP [5, 6, 1, 2, 3, 4] rfl 0 3 rfl rfl rfl) rm_ok_CH_hear_Earnest_loudness rfl rfl (Nat.le_of_ble_eq_true rfl) dX10_hear_33 ⟨Nat.zero_le _, Nat.zero_le _⟩) ?_
      cases hf
      exact zeri hx hb hr hk dX10_hear_36
    · have hf := zif_t hb_6 hf
      refine lv_iconst (v := (-1)) hx hb dX10_hear_21 (by decide) ?_
      cases hf
      exact zeri hx hb hr hk dX10_hear_22
set_option maxHeartbeats 4000000 in
set_option maxRecDepth 100000 in
theorem c_CH_hear {l : Launch} {dC : Nat → ClassId} {dI : Nat → Nat → Nat} {cy : Nat → ClassId} {N : Nat} (o0 : Nat) (a0 : Nat → Nat) (s0 : zSt) (a1 : Nat → Nat) (s1 : zSt) (a2 : Nat → Nat) (s2 : zSt) (v1 : Int32) (v2 : Int32) {y : Int32} (hf : CH_hear N s0 s1 s2 v1 v2 = some y) : Met l yX10_hear (.code yX10_hear cX10_hear 3 (some .int) :: zt) rm_CH_hear (va_Pc [.ref o0, .int v1, .int v2] (zRd (dC, dI) cy (wd_CH_hear cy o0 a0 (zI s0) (zL s0) a1 (zI s1) (zL s1) (zA s1 5) (zA s1 6) (zA s1 14) a2 (zI s2) (zL s2) (zA s2 5)))) (zSi y) 0 0 (fun _ => False) :=
  zentR (by decide +kernel) (Nat.le_of_ble_eq_true rfl) (fun p e s m below meth c C0 hP ls hl => k_CH_hear_b0 C0 s0 s1 s2 v1 v2 hP hf ls hl)
def wd_CH_chord (cy : Nat → ClassId) (o0 : Nat) (a0 : Nat → Nat) (g0 : Nat → Int32) (h0 : Nat → Int64) (a1 : Nat → Nat) (g1 : Nat → Int32) (h1 : Nat → Int64) (x1_5 : Nat → Int32) (x1_6 : Nat → Int32) (x1_14 : Nat → Int32) (a2 : Nat → Nat) (g2 : Nat → Int32) (h2 : Nat → Int64) (x2_5 : Nat → Int32) : va_W := [(o0, .inr (10, fs_CH a0 g0 h0)), ((a0 3), .inr (9, fs_Valley a1 g1 h1)), (a1 5, .inl (cy 0, 11, .inl x1_5)), (a1 6, .inl (cy 0, 11, .inl x1_6)), (a1 14, .inl (cy 0, 4, .inl x1_14)), ((a0 5), .inr (3, fs_Earnest a2 g2 h2)), (a2 5, .inl (cy 0, 11, .inl x2_5))]
def rm_CH_chord : Room := { frames := 4, cells := 0, slots := 0, locals := 111 }
theorem rm_ok_CH_chord_Earnest_loudness : rm_Earnest_loudness.cells = 0 ∧ rm_Earnest_loudness.slots = 0 ∧ rm_Earnest_loudness.frames + 1 ≤ rm_CH_chord.frames ∧ 8 + (6 + 11) + rm_Earnest_loudness.locals ≤ rm_CH_chord.locals := by decide
theorem rm_ok_CH_chord_Valley_hasEar : rm_Valley_hasEar.cells = 0 ∧ rm_Valley_hasEar.slots = 0 ∧ rm_Valley_hasEar.frames + 1 ≤ rm_CH_chord.frames ∧ 8 + (2 + 11) + rm_Valley_hasEar.locals ≤ rm_CH_chord.locals := by decide
set_option maxHeartbeats 4000000 in
set_option maxRecDepth 100000 in
theorem k_CH_chord_b45 {p : Program} {l : Launch} {e : Env} {s : State} {m : MethodId} {args : Array Value} {below : List Frame} {meth : Method} {c : Code} {dC : Nat → ClassId} {dI : Nat → Nat → Nat} {cy : Nat → ClassId} {o0 : Nat} {a0 : Nat → Nat} {a1 : Nat → Nat} {a2 : Nat → Nat} {N : Nat} {kh17 : Int32 → Int32 → Option (Int32)} {y : Int32} (C0 : zCx p s m args meth c cX10_chord 4 (some .int) RX10 (dC, dI) cy) (s0 : zSt) (s1 : zSt) (s2 : zSt) (v1 : Int32) (v2 : Int32) (v3 : Int32) (hk17 : ∀ (v2 : Int32) (v3 : Int32) (_ : kh17 v2 v3 = some y) (ls : Array Slot) (_ : lv_has ls 4 [(0, .ref o0), (1, .int v1), (2, .int v2), (3, .int v3)]), W p l e rm_CH_chord s m args below meth c s.heap [] 0 0 (MQ below (zSi y) args s 0 0 (fun _ => False)) (F0 m 17 ls [])) (hP : va_P (dC, dI) vwCl (wd_CH_chord cy o0 a0 (zI s0) (zL s0) a1 (zI s1) (zL s1) (zA s1 5) (zA s1 6) (zA s1 14) a2 (zI s2) (zL s2) (zA s2 5)) s.heap) (hf : CH_chord_b45 N kh17 s0 s1 s2 v1 v2 v3 = some y) (ls : Array Slot) (hl : lv_has ls 4 [(0, .ref o0), (1, .int v1), (2, .int v2), (3, .int v3)]) : W p l e rm_CH_chord s m args below meth c s.heap [] 0 0 (MQ below (zSi y) args s 0 0 (fun _ => False)) (F0 m 45 ls []) := by
  obtain ⟨hx, hb, hr, hml, hown, hT, hk, hK⟩ := id C0
  refine lv_iinc (v := v3 + 1) (lv' := [(3, .int (v3 + 1)), (0, .ref o0), (1, .int v1), (2, .int v2)]) hx hb dX10_chord_45 hl (k := 3) rfl rfl (by decide) rfl (fun ls hl => ?_)
  refine lv_goto (tgt := 17) hx hb dX10_chord_48 (by decide) ?_
  exact hk17 v2 (v3 + 1) hf _ (lv_sub hl [1, 2, 3, 0] rfl)
set_option maxHeartbeats 4000000 in
set_option maxRecDepth 100000 in
theorem k_CH_chord_b17 {p : Program} {l : Launch} {e : Env} {s : State} {m : MethodId} {args : Array Value} {below : List Frame} {meth : Method} {c : Code} {dC : Nat → ClassId} {dI : Nat → Nat → Nat} {cy : Nat → ClassId} {o0 : Nat} {a0 : Nat → Nat} {a1 : Nat → Nat} {a2 : Nat → Nat} {N : Nat} {kh17 : Int32 → Int32 → Option (Int32)} {y : Int32} (C0 : zCx p s m args meth c cX10_chord 4 (some .int) RX10 (dC, dI) cy) (s0 : zSt) (s1 : zSt) (s2 : zSt) (v1 : Int32) (v2 : Int32) (v3 : Int32) (hk17 : ∀ (v2 : Int32) (v3 : Int32) (_ : kh17 v2 v3 = some y) (ls : Array Slot) (_ : lv_has ls 4 [(0, .ref o0), (1, .int v1), (2, .int v2), (3, .int v3)]), W p l e rm_CH_chord s m args below meth c s.heap [] 0 0 (MQ below (zSi y) args s 0 0 (fun _ => False)) (F0 m 17 ls [])) (hP : va_P (dC, dI) vwCl (wd_CH_chord cy o0 a0 (zI s0) (zL s0) a1 (zI s1) (zL s1) (zA s1 5) (zA s1 6) (zA s1 14) a2 (zI s2) (zL s2) (zA s2 5)) s.heap) (hf : CH_chord_b17 N kh17 s0 s1 s2 v1 v2 v3 = some y) (ls : Array Slot) (hl : lv_has ls 4 [(0, .ref o0), (1, .int v1), (2, .int v2), (3, .int v3)]) : W p l e rm_CH_chord s m args below meth c s.heap [] 0 0 (MQ below (zSi y) args s 0 0 (fun _ => False)) (F0 m 17 ls []) := by
  obtain ⟨hx, hb, hr, hml, hown, hT, hk, hK⟩ := id C0
  refine lv_iload_n hx hb dX10_chord_17 rfl (lv_at hl 3 rfl) ?_
  refine lv_bipush (v := 12) hx hb dX10_chord_18 (by decide) ?_
  refine lv_icmp_ge (tgt := 51) hx hb dX10_chord_20 (by decide) (fun hb_1 => ?_) (fun hb_1 => ?_)
  · have hf := zif_t hb_1 hf
    refine lv_iload_n hx hb dX10_chord_51 rfl (lv_at hl 2 rfl) ?_
    cases hf
    exact zeri hx hb hr hk dX10_chord_52
  · have hf := zif_f hb_1 hf
    refine lv_aload_n hx hb dX10_chord_23 rfl (lv_at hl 0 rfl) ?_
    refine zget (v := .ref (a0 5)) hx hb hown hT hK hP inX10 rfl smX10 0 rfl 5 (by decide) tb_436 rfl dX10_chord_24 ?_
    refine lv_aload_n hx hb dX10_chord_27 rfl (lv_at hl 0 rfl) ?_
    refine zget (v := .ref (a0 3)) hx hb hown hT hK hP inX10 rfl smX10 0 rfl 3 (by decide) tb_434 rfl dX10_chord_28 ?_
    refine lv_iload_n hx hb dX10_chord_31 rfl (lv_at hl 1 rfl) ?_
    refine lv_iload_n hx hb dX10_chord_32 rfl (lv_at hl 3 rfl) ?_
    obtain ⟨z2, hc3, hf⟩ := zbd_some hf
    refine zri (zV (As := [.ref (a0 3), .int v1, .int v3]) hx hb hml hown hT hl.1 (c_Earnest_loudness (a0 5) a2 s2 (a0 3) a1 s1 v1 v3 hc3) zY_Earnest_loudness tb_672 (zpR hK hP [5, 6, 1, 2, 3, 4] rfl 0 3 rfl rfl rfl) rm_ok_CH_chord_Earnest_loudness rfl rfl (Nat.le_of_ble_eq_true rfl) dX10_chord_33 ⟨Nat.zero_le _, Nat.zero_le _⟩) ?_
    refine lv_if_le (tgt := 45) hx hb dX10_chord_36 (by decide) (fun hb_4 => ?_) (fun hb_4 => ?_)
    · have hf := zif_t hb_4 hf
      exact k_CH_chord_b45 C0 s0 s1 s2 v1 v2 v3 hk17 hP hf _ (lv_sub hl [0, 1, 2, 3] rfl)
    · have hf := zif_f hb_4 hf
      refine lv_iload_n hx hb dX10_chord_39 rfl (lv_at hl 2 rfl) ?_
      refine lv_iconst (v := 1) hx hb dX10_chord_40 (by decide) ?_
      refine lv_iload_n hx hb dX10_chord_41 rfl (lv_at hl 3 rfl) ?_
      refine lv_ishl hx hb dX10_chord_42 ?_
      refine lv_ior hx hb dX10_chord_43 ?_
      refine lv_istore_n (lv' := [(2, .int (v2 ||| ((1 : Int32) <<< (v3 &&& 31)))), (0, .ref o0), (1, .int v1), (3, .int v3)]) hx hb dX10_chord_44 rfl hl (by decide) rfl (fun ls hl => ?_)
      exact k_CH_chord_b45 C0 s0 s1 s2 v1 (v2 ||| ((1 : Int32) <<< (v3 &&& 31))) v3 hk17 hP hf _ (lv_sub hl [1, 2, 0, 3] rfl)
set_option maxHeartbeats 4000000 in
set_option maxRecDepth 100000 in
theorem k_CH_chord_h17 {p : Program} {l : Launch} {e : Env} {s : State} {m : MethodId} {args : Array Value} {below : List Frame} {meth : Method} {c : Code} {dC : Nat → ClassId} {dI : Nat → Nat → Nat} {cy : Nat → ClassId} {o0 : Nat} {a0 : Nat → Nat} {a1 : Nat → Nat} {a2 : Nat → Nat} {N : Nat} {y : Int32} (C0 : zCx p s m args meth c cX10_chord 4 (some .int) RX10 (dC, dI) cy) (s0 : zSt) (s1 : zSt) (s2 : zSt) (v1 : Int32) (hP : va_P (dC, dI) vwCl (wd_CH_chord cy o0 a0 (zI s0) (zL s0) a1 (zI s1) (zL s1) (zA s1 5) (zA s1 6) (zA s1 14) a2 (zI s2) (zL s2) (zA s2 5)) s.heap) : ∀ (n : Nat) (v2 : Int32) (v3 : Int32) (hf : CH_chord_h17 N s0 s1 s2 v1 n v2 v3 = some y) (ls : Array Slot) (hl : lv_has ls 4 [(0, .ref o0), (1, .int v1), (2, .int v2), (3, .int v3)]), W p l e rm_CH_chord s m args below meth c s.heap [] 0 0 (MQ below (zSi y) args s 0 0 (fun _ => False)) (F0 m 17 ls []) := by
  intro n
  induction n with
  | zero => intro v2 v3 hf; cases hf
  | succ n ih =>
    intro v2 v3 hf ls hl
    have hf : CH_chord_b17 N (CH_chord_h17 N s0 s1 s2 v1 n) s0 s1 s2 v1 v2 v3 = some y := hf
    exact k_CH_chord_b17 C0 s0 s1 s2 v1 v2 v3 (fun v2 v3 hf ls hl => ih v2 v3 hf ls hl) hP hf ls hl
set_option maxHeartbeats 4000000 in
set_option maxRecDepth 100000 in
theorem k_CH_chord_b0 {p : Program} {l : Launch} {e : Env} {s : State} {m : MethodId} {args : Array Value} {below : List Frame} {meth : Method} {c : Code} {dC : Nat → ClassId} {dI : Nat → Nat → Nat} {cy : Nat → ClassId} {o0 : Nat} {a0 : Nat → Nat} {a1 : Nat → Nat} {a2 : Nat → Nat} {N : Nat} {y : Int32} (C0 : zCx p s m args meth c cX10_chord 4 (some .int) RX10 (dC, dI) cy) (s0 : zSt) (s1 : zSt) (s2 : zSt) (v1 : Int32) (hP : va_P (dC, dI) vwCl (wd_CH_chord cy o0 a0 (zI s0) (zL s0) a1 (zI s1) (zL s1) (zA s1 5) (zA s1 6) (zA s1 14) a2 (zI s2) (zL s2) (zA s2 5)) s.heap) (hf : CH_chord_b0 N s0 s1 s2 v1 = some y) (ls : Array Slot) (hl : lv_has ls 4 [(0, .ref o0), (1, .int v1)]) : W p l e rm_CH_chord s m args below meth c s.heap [] 0 0 (MQ below (zSi y) args s 0 0 (fun _ => False)) (F0 m 0 ls []) := by
  obtain ⟨hx, hb, hr, hml, hown, hT, hk, hK⟩ := id C0
  refine lv_aload_n hx hb dX10_chord_0 rfl (lv_at hl 0 rfl) ?_
  refine zget (v := .ref (a0 3)) hx hb hown hT hK hP inX10 rfl smX10 0 rfl 3 (by decide) tb_434 rfl dX10_chord_1 ?_
  refine lv_iload_n hx hb dX10_chord_4 rfl (lv_at hl 1 rfl) ?_
  obtain ⟨z1, hc2, hf⟩ := zbd_some hf
  refine zri (zV (As := [.int v1]) hx hb hml hown hT hl.1 (c_Valley_hasEar (a0 3) a1 s1 v1 hc2) zY_Valley_hasEar tb_668 (zpR hK hP [1] rfl 0 9 rfl rfl rfl) rm_ok_CH_chord_Valley_hasEar rfl rfl (Nat.le_of_ble_eq_true rfl) dX10_chord_5 ⟨Nat.zero_le _, Nat.zero_le _⟩) ?_
  refine lv_if_ne (tgt := 13) hx hb dX10_chord_8 (by decide) (fun hb_3 => ?_) (fun hb_3 => ?_)
  · have hf := zif_f hb_3 hf
    refine lv_iconst (v := 0) hx hb dX10_chord_13 (by decide) ?_
    refine lv_istore_n (lv' := [(2, .int 0), (0, .ref o0), (1, .int v1)]) hx hb dX10_chord_14 rfl hl (by decide) rfl (fun ls hl => ?_)
    refine lv_iconst (v := 0) hx hb dX10_chord_15 (by decide) ?_
    refine lv_istore_n (lv' := [(3, .int 0), (2, .int 0), (0, .ref o0), (1, .int v1)]) hx hb dX10_chord_16 rfl hl (by decide) rfl (fun ls hl => ?_)
    exact k_CH_chord_h17 C0 s0 s1 s2 v1  hP N 0 0 hf _ (lv_sub hl [2, 3, 1, 0] rfl)
  · have hf := zif_t hb_3 hf
    refine lv_iconst (v := (-1)) hx hb dX10_chord_11 (by decide) ?_
    cases hf
    exact zeri hx hb hr hk dX10_chord_12
set_option maxHeartbeats 4000000 in
set_option maxRecDepth 100000 in
theorem c_CH_chord {l : Launch} {dC : Nat → ClassId} {dI : Nat → Nat → Nat} {cy : Nat → ClassId} {N : Nat} (o0 : Nat) (a0 : Nat → Nat) (s0 : zSt) (a1 : Nat → Nat) (s1 : zSt) (a2 : Nat → Nat) (s2 : zSt) (v1 : Int32) {y : Int32} (hf : CH_chord N s0 s1 s2 v1 = some y) : Met l yX10_chord (.code yX10_chord cX10_chord 4 (some .int) :: zt) rm_CH_chord (va_Pc [.ref o0, .int v1] (zRd (dC, dI) cy (wd_CH_chord cy o0 a0 (zI s0) (zL s0) a1 (zI s1) (zL s1) (zA s1 5) (zA s1 6) (zA s1 14) a2 (zI s2) (zL s2) (zA s2 5)))) (zSi y) 0 0 (fun _ => False) :=
  zentR (by decide +kernel) (Nat.le_of_ble_eq_true rfl) (fun p e s m below meth c C0 hP ls hl => k_CH_chord_b0 C0 s0 s1 s2 v1 hP hf ls hl)
def wd_CH_comes (cy : Nat → ClassId) (o0 : Nat) (a0 : Nat → Nat) (g0 : Nat → Int32) (h0 : Nat → Int64) (a1 : Nat → Nat) (g1 : Nat → Int32) (h1 : Nat → Int64) (a2 : Nat → Nat) (g2 : Nat → Int32) (h2 : Nat → Int64) : va_W := [(o0, .inr (10, fs_CH a0 g0 h0)), ((a0 3), .inr (9, fs_Valley a1 g1 h1)), ((a0 5), .inr (3, fs_Earnest a2 g2 h2))]
def rm_CH_comes : Room := { frames := 3, cells := 0, slots := 0, locals := 83 }
theorem rm_ok_CH_comes_Earnest_isThere : rm_Earnest_isThere.cells = 0 ∧ rm_Earnest_isThere.slots = 0 ∧ rm_Earnest_isThere.frames + 1 ≤ rm_CH_comes.frames ∧ 8 + (2 + 11) + rm_Earnest_isThere.locals ≤ rm_CH_comes.locals := by decide
theorem rm_ok_CH_comes_Valley_hasBell : rm_Valley_hasBell.cells = 0 ∧ rm_Valley_hasBell.slots = 0 ∧ rm_Valley_hasBell.frames + 1 ≤ rm_CH_comes.frames ∧ 8 + (2 + 11) + rm_Valley_hasBell.locals ≤ rm_CH_comes.locals := by decide
set_option maxHeartbeats 4000000 in
set_option maxRecDepth 100000 in
theorem k_CH_comes_b0 {p : Program} {l : Launch} {e : Env} {s : State} {m : MethodId} {args : Array Value} {below : List Frame} {meth : Method} {c : Code} {dC : Nat → ClassId} {dI : Nat → Nat → Nat} {cy : Nat → ClassId} {A : Nat → Prop} {o0 : Nat} {a0 : Nat → Nat} {a1 : Nat → Nat} {a2 : Nat → Nat} {N : Nat} {y : Int32 × zSt} (C0 : zCx p s m args meth c cX10_comes 3 (some .boolean) RX10 (dC, dI) cy) (s0 : zSt) (s1 : zSt) (s2 : zSt) (v1 : Int32) (v2 : Int32) (hA : ∀ q, s.heap.size ≤ q → A q) {H : Heap} {locs : List Loc} (hP : va_P (dC, dI) vwCl (wd_CH_comes cy o0 a0 (zI s0) (zL s0) a1 (zI s1) (zL s1) a2 (zI s2) (zL s2)) H) (hD : va_D A (wd_CH_comes cy o0 a0 (zI s0) (zL s0) a1 (zI s1) (zL s1) a2 (zI s2) (zL s2))) (hS : va_S A s.heap H locs) (hf : CH_comes_b0 N s0 s1 s2 v1 v2 = some y) (ls : Array Slot) (hl : lv_has ls 3 [(0, .ref o0), (1, .int v1), (2, .int v2)]) : W p l e rm_CH_comes s m args below meth c H locs 0 0 (MQ below (zQi y.1 (dC, dI) cy (wd_CH_comes cy o0 a0 (zI s0) (zL s0) a1 (zI s1) (zL s1) a2 (zI y.2) (zL y.2)) A) args s 0 0 A) (F0 m 0 ls []) := by
  obtain ⟨hx, hb, hr, hml, hown, hT, hk, hK⟩ := id C0
  refine lv_aload_n hx hb dX10_comes_0 rfl (lv_at hl 0 rfl) ?_
  refine zget (v := .ref (a0 3)) hx hb hown hT hK hP inX10 rfl smX10 0 rfl 3 (by decide) tb_434 rfl dX10_comes_1 ?_
  refine lv_iload_n hx hb dX10_comes_4 rfl (lv_at hl 1 rfl) ?_
  obtain ⟨z1, hc2, hf⟩ := zbd_some hf
  refine zri (zV (As := [.int v1]) hx hb hml hown hT hl.1 (c_Valley_hasBell (a0 3) a1 s1 v1 hc2) zY_Valley_hasBell tb_652 (zpR hK hP [1] rfl 0 9 rfl rfl rfl) rm_ok_CH_comes_Valley_hasBell rfl rfl (Nat.le_of_ble_eq_true rfl) dX10_comes_5 ⟨Nat.zero_le _, Nat.zero_le _⟩) ?_
  refine lv_if_eq (tgt := 23) hx hb dX10_comes_8 (by decide) (fun hb_3 => ?_) (fun hb_3 => ?_)
  · have hf := zif_t hb_3 hf
    refine lv_iconst (v := 0) hx hb dX10_comes_23 (by decide) ?_
    cases hf
    exact zewz hx hb hr hk (Or.inl rfl) hK hP hD hS dX10_comes_24
  · have hf := zif_f hb_3 hf
    refine lv_aload_n hx hb dX10_comes_11 rfl (lv_at hl 0 rfl) ?_
    refine zget (v := .ref (a0 5)) hx hb hown hT hK hP inX10 rfl smX10 0 rfl 5 (by decide) tb_436 rfl dX10_comes_12 ?_
    refine lv_iload_n hx hb dX10_comes_15 rfl (lv_at hl 1 rfl) ?_
    obtain ⟨z4, hc5, hf⟩ := zbd_some hf
    refine zri (zV (As := [.int v1]) hx hb hml hown hT hl.1 (c_Earnest_isThere (a0 5) a2 s2 v1 hc5) zY_Earnest_isThere tb_703 (zpR hK hP [2] rfl 0 3 rfl rfl rfl) rm_ok_CH_comes_Earnest_isThere rfl rfl (Nat.le_of_ble_eq_true rfl) dX10_comes_16 ⟨Nat.zero_le _, Nat.zero_le _⟩) ?_
    refine lv_iload_n hx hb dX10_comes_19 rfl (lv_at hl 2 rfl) ?_
    refine lv_icmp_ne (tgt := 25) hx hb dX10_comes_20 (by decide) (fun hb_6 => ?_) (fun hb_6 => ?_)
    · have hf := zif_f hb_6 hf
      refine lv_aload_n hx hb dX10_comes_25 rfl (lv_at hl 0 rfl) ?_
      refine zget (v := .ref (a0 5)) hx hb hown hT hK hP inX10 rfl smX10 0 rfl 5 (by decide) tb_436 rfl dX10_comes_26 ?_
      refine lv_dup hx hb dX10_comes_29 rfl ?_
      refine zget (v := .int (zI s2 0)) hx hb hown hT hK hP inX3 rfl smX3 2 rfl 0 (by decide) tb_174 rfl dX10_comes_30 ?_
      refine lv_iconst (v := 1) hx hb dX10_comes_33 (by decide) ?_
      refine lv_iload_n hx hb dX10_comes_34 rfl (lv_at hl 1 rfl) ?_
      refine lv_ishl hx hb dX10_comes_35 ?_
      refine lv_ixor hx hb dX10_comes_36 ?_
      refine zput (fs' := fs_Earnest a2 (upd (zI s2) 0 ((zI s2 0) ^^^ ((1 : Int32) <<< (v1 &&& 31)))) (zL s2)) (ws' := (wd_CH_comes cy o0 a0 (zI s0) (zL s0) a1 (zI s1) (zL s1) a2 (upd (zI s2) 0 ((zI s2 0) ^^^ ((1 : Int32) <<< (v1 &&& 31)))) (zL s2))) hx hb hown hT hK hP hD hS inX3 rfl smX3 tyX3_ok nmX3 2 rfl 0 (by decide) tb_174 rfl rfl rfl (Nat.le_of_ble_eq_true rfl) rfl rfl dX10_comes_37 (fun H locs hP hD hS => ?_)
      refine lv_aload_n hx hb dX10_comes_40 rfl (lv_at hl 0 rfl) ?_
      refine zget (v := .ref (a0 5)) hx hb hown hT hK hP inX10 rfl smX10 0 rfl 5 (by decide) tb_436 rfl dX10_comes_41 ?_
      refine lv_dup hx hb dX10_comes_44 rfl ?_
      refine zget (v := .int (zI s2 1)) hx hb hown hT hK hP inX3 rfl smX3 2 rfl 1 (by decide) tb_176 rfl dX10_comes_45 ?_
      refine lv_aload_n hx hb dX10_comes_48 rfl (lv_at hl 0 rfl) ?_
      refine zget (v := .ref (a0 5)) hx hb hown hT hK hP inX10 rfl smX10 0 rfl 5 (by decide) tb_436 rfl dX10_comes_49 ?_
      refine zget (v := .int ((zI s2 0) ^^^ ((1 : Int32) <<< (v1 &&& 31)))) hx hb hown hT hK hP inX3 rfl smX3 2 rfl 0 (by decide) tb_174 rfl dX10_comes_52 ?_
      refine lv_iand hx hb dX10_comes_55 ?_
      refine zput (fs' := fs_Earnest a2 (upd (upd (zI s2) 0 ((zI s2 0) ^^^ ((1 : Int32) <<< (v1 &&& 31)))) 1 ((zI s2 1) &&& ((zI s2 0) ^^^ ((1 : Int32) <<< (v1 &&& 31))))) (zL s2)) (ws' := (wd_CH_comes cy o0 a0 (zI s0) (zL s0) a1 (zI s1) (zL s1) a2 (upd (upd (zI s2) 0 ((zI s2 0) ^^^ ((1 : Int32) <<< (v1 &&& 31)))) 1 ((zI s2 1) &&& ((zI s2 0) ^^^ ((1 : Int32) <<< (v1 &&& 31))))) (zL s2))) hx hb hown hT hK hP hD hS inX3 rfl smX3 tyX3_ok nmX3 2 rfl 1 (by decide) tb_176 rfl rfl rfl (Nat.le_of_ble_eq_true rfl) rfl rfl dX10_comes_56 (fun H locs hP hD hS => ?_)
      refine lv_iconst (v := 1) hx hb dX10_comes_59 (by decide) ?_
      cases hf
      exact zewz hx hb hr hk (Or.inr rfl) hK hP hD hS dX10_comes_60
    · have hf := zif_t hb_6 hf
      refine lv_iconst (v := 0) hx hb dX10_comes_23 (by decide) ?_
      cases hf
      exact zewz hx hb hr hk (Or.inl rfl) hK hP hD hS dX10_comes_24
set_option maxHeartbeats 4000000 in
set_option maxRecDepth 100000 in
theorem c_CH_comes {l : Launch} {dC : Nat → ClassId} {dI : Nat → Nat → Nat} {cy : Nat → ClassId} {sz : Nat} {N : Nat} (o0 : Nat) (a0 : Nat → Nat) (s0 : zSt) (a1 : Nat → Nat) (s1 : zSt) (a2 : Nat → Nat) (s2 : zSt) (v1 : Int32) (v2 : Int32) {y : Int32 × zSt} (hf : CH_comes N s0 s1 s2 v1 v2 = some y) : Met l yX10_comes (.code yX10_comes cX10_comes 3 (some .boolean) :: zt) rm_CH_comes (va_Pc [.ref o0, .int v1, .int v2] (zPre (dC, dI) cy (wd_CH_comes cy o0 a0 (zI s0) (zL s0) a1 (zI s1) (zL s1) a2 (zI s2) (zL s2)) sz)) (zQi y.1 (dC, dI) cy (wd_CH_comes cy o0 a0 (zI s0) (zL s0) a1 (zI s1) (zL s1) a2 (zI y.2) (zL y.2)) (va_A (wd_CH_comes cy o0 a0 (zI s0) (zL s0) a1 (zI s1) (zL s1) a2 (zI s2) (zL s2)) sz)) 0 0 (va_A (wd_CH_comes cy o0 a0 (zI s0) (zL s0) a1 (zI s1) (zL s1) a2 (zI s2) (zL s2)) sz) :=
  zentW (Qw := fun A => (zQi y.1 (dC, dI) cy (wd_CH_comes cy o0 a0 (zI s0) (zL s0) a1 (zI s1) (zL s1) a2 (zI y.2) (zL y.2)) A)) (by decide +kernel) (Nat.le_of_ble_eq_true rfl) (fun p e s m below meth c A C0 hA hP hD hS ls hl => k_CH_comes_b0 C0 s0 s1 s2 v1 v2 hA hP hD hS hf ls hl)
def wd_CH_stand (cy : Nat → ClassId) (o0 : Nat) (a0 : Nat → Nat) (g0 : Nat → Int32) (h0 : Nat → Int64) (a1 : Nat → Nat) (g1 : Nat → Int32) (h1 : Nat → Int64) (a2 : Nat → Nat) (g2 : Nat → Int32) (h2 : Nat → Int64) : va_W := [(o0, .inr (10, fs_CH a0 g0 h0)), ((a0 3), .inr (9, fs_Valley a1 g1 h1)), ((a0 5), .inr (3, fs_Earnest a2 g2 h2))]
def rm_CH_stand : Room := { frames := 3, cells := 0, slots := 0, locals := 83 }
theorem rm_ok_CH_stand_Earnest_isStanding : rm_Earnest_isStanding.cells = 0 ∧ rm_Earnest_isStanding.slots = 0 ∧ rm_Earnest_isStanding.frames + 1 ≤ rm_CH_stand.frames ∧ 8 + (2 + 11) + rm_Earnest_isStanding.locals ≤ rm_CH_stand.locals := by decide
theorem rm_ok_CH_stand_Earnest_isThere : rm_Earnest_isThere.cells = 0 ∧ rm_Earnest_isThere.slots = 0 ∧ rm_Earnest_isThere.frames + 1 ≤ rm_CH_stand.frames ∧ 8 + (2 + 11) + rm_Earnest_isThere.locals ≤ rm_CH_stand.locals := by decide
theorem rm_ok_CH_stand_Valley_hasBell : rm_Valley_hasBell.cells = 0 ∧ rm_Valley_hasBell.slots = 0 ∧ rm_Valley_hasBell.frames + 1 ≤ rm_CH_stand.frames ∧ 8 + (2 + 11) + rm_Valley_hasBell.locals ≤ rm_CH_stand.locals := by decide
set_option maxHeartbeats 4000000 in
set_option maxRecDepth 100000 in
theorem k_CH_stand_b0 {p : Program} {l : Launch} {e : Env} {s : State} {m : MethodId} {args : Array Value} {below : List Frame} {meth : Method} {c : Code} {dC : Nat → ClassId} {dI : Nat → Nat → Nat} {cy : Nat → ClassId} {A : Nat → Prop} {o0 : Nat} {a0 : Nat → Nat} {a1 : Nat → Nat} {a2 : Nat → Nat} {N : Nat} {y : Int32 × zSt} (C0 : zCx p s m args meth c cX10_stand 3 (some .boolean) RX10 (dC, dI) cy) (s0 : zSt) (s1 : zSt) (s2 : zSt) (v1 : Int32) (v2 : Int32) (hA : ∀ q, s.heap.size ≤ q → A q) {H : Heap} {locs : List Loc} (hP : va_P (dC, dI) vwCl (wd_CH_stand cy o0 a0 (zI s0) (zL s0) a1 (zI s1) (zL s1) a2 (zI s2) (zL s2)) H) (hD : va_D A (wd_CH_stand cy o0 a0 (zI s0) (zL s0) a1 (zI s1) (zL s1) a2 (zI s2) (zL s2))) (hS : va_S A s.heap H locs) (hf : CH_stand_b0 N s0 s1 s2 v1 v2 = some y) (ls : Array Slot) (hl : lv_has ls 3 [(0, .ref o0), (1, .int v1), (2, .int v2)]) : W p l e rm_CH_stand s m args below meth c H locs 0 0 (MQ below (zQi y.1 (dC, dI) cy (wd_CH_stand cy o0 a0 (zI s0) (zL s0) a1 (zI s1) (zL s1) a2 (zI y.2) (zL y.2)) A) args s 0 0 A) (F0 m 0 ls []) := by
  obtain ⟨hx, hb, hr, hml, hown, hT, hk, hK⟩ := id C0
  refine lv_aload_n hx hb dX10_stand_0 rfl (lv_at hl 0 rfl) ?_
  refine zget (v := .ref (a0 3)) hx hb hown hT hK hP inX10 rfl smX10 0 rfl 3 (by decide) tb_434 rfl dX10_stand_1 ?_
  refine lv_iload_n hx hb dX10_stand_4 rfl (lv_at hl 1 rfl) ?_
  obtain ⟨z1, hc2, hf⟩ := zbd_some hf
  refine zri (zV (As := [.int v1]) hx hb hml hown hT hl.1 (c_Valley_hasBell (a0 3) a1 s1 v1 hc2) zY_Valley_hasBell tb_652 (zpR hK hP [1] rfl 0 9 rfl rfl rfl) rm_ok_CH_stand_Valley_hasBell rfl rfl (Nat.le_of_ble_eq_true rfl) dX10_stand_5 ⟨Nat.zero_le _, Nat.zero_le _⟩) ?_
  refine lv_if_eq (tgt := 34) hx hb dX10_stand_8 (by decide) (fun hb_3 => ?_) (fun hb_3 => ?_)
  · have hf := zif_t hb_3 hf
    refine lv_iconst (v := 0) hx hb dX10_stand_34 (by decide) ?_
    cases hf
    exact zewz hx hb hr hk (Or.inl rfl) hK hP hD hS dX10_stand_35
  · have hf := zif_f hb_3 hf
    refine lv_aload_n hx hb dX10_stand_11 rfl (lv_at hl 0 rfl) ?_
    refine zget (v := .ref (a0 5)) hx hb hown hT hK hP inX10 rfl smX10 0 rfl 5 (by decide) tb_436 rfl dX10_stand_12 ?_
    refine lv_iload_n hx hb dX10_stand_15 rfl (lv_at hl 1 rfl) ?_
    obtain ⟨z4, hc5, hf⟩ := zbd_some hf
    refine zri (zV (As := [.int v1]) hx hb hml hown hT hl.1 (c_Earnest_isThere (a0 5) a2 s2 v1 hc5) zY_Earnest_isThere tb_703 (zpR hK hP [2] rfl 0 3 rfl rfl rfl) rm_ok_CH_stand_Earnest_isThere rfl rfl (Nat.le_of_ble_eq_true rfl) dX10_stand_16 ⟨Nat.zero_le _, Nat.zero_le _⟩) ?_
    refine lv_if_eq (tgt := 34) hx hb dX10_stand_19 (by decide) (fun hb_6 => ?_) (fun hb_6 => ?_)
    · have hf := zif_t hb_6 hf
      refine lv_iconst (v := 0) hx hb dX10_stand_34 (by decide) ?_
      cases hf
      exact zewz hx hb hr hk (Or.inl rfl) hK hP hD hS dX10_stand_35
    · have hf := zif_f hb_6 hf
      refine lv_aload_n hx hb dX10_stand_22 rfl (lv_at hl 0 rfl) ?_
      refine zget (v := .ref (a0 5)) hx hb hown hT hK hP inX10 rfl smX10 0 rfl 5 (by decide) tb_436 rfl dX10_stand_23 ?_
      refine lv_iload_n hx hb dX10_stand_26 rfl (lv_at hl 1 rfl) ?_
      obtain ⟨z7, hc8, hf⟩ := zbd_some hf
      refine zri (zV (As := [.int v1]) hx hb hml hown hT hl.1 (c_Earnest_isStanding (a0 5) a2 s2 v1 hc8) zY_Earnest_isStanding tb_708 (zpR hK hP [2] rfl 0 3 rfl rfl rfl) rm_ok_CH_stand_Earnest_isStanding rfl rfl (Nat.le_of_ble_eq_true rfl) dX10_stand_27 ⟨Nat.zero_le _, Nat.zero_le _⟩) ?_
      refine lv_iload_n hx hb dX10_stand_30 rfl (lv_at hl 2 rfl) ?_
      refine lv_icmp_ne (tgt := 36) hx hb dX10_stand_31 (by decide) (fun hb_9 => ?_) (fun hb_9 => ?_)
      · have hf := zif_f hb_9 hf
        refine lv_aload_n hx hb dX10_stand_36 rfl (lv_at hl 0 rfl) ?_
        refine zget (v := .ref (a0 5)) hx hb hown hT hK hP inX10 rfl smX10 0 rfl 5 (by decide) tb_436 rfl dX10_stand_37 ?_
        refine lv_dup hx hb dX10_stand_40 rfl ?_
        refine zget (v := .int (zI s2 1)) hx hb hown hT hK hP inX3 rfl smX3 2 rfl 1 (by decide) tb_176 rfl dX10_stand_41 ?_
        refine lv_iconst (v := 1) hx hb dX10_stand_44 (by decide) ?_
        refine lv_iload_n hx hb dX10_stand_45 rfl (lv_at hl 1 rfl) ?_
        refine lv_ishl hx hb dX10_stand_46 ?_
        refine lv_ixor hx hb dX10_stand_47 ?_
        refine zput (fs' := fs_Earnest a2 (upd (zI s2) 1 ((zI s2 1) ^^^ ((1 : Int32) <<< (v1 &&& 31)))) (zL s2)) (ws' := (wd_CH_stand cy o0 a0 (zI s0) (zL s0) a1 (zI s1) (zL s1) a2 (upd (zI s2) 1 ((zI s2 1) ^^^ ((1 : Int32) <<< (v1 &&& 31)))) (zL s2))) hx hb hown hT hK hP hD hS inX3 rfl smX3 tyX3_ok nmX3 2 rfl 1 (by decide) tb_176 rfl rfl rfl (Nat.le_of_ble_eq_true rfl) rfl rfl dX10_stand_48 (fun H locs hP hD hS => ?_)
        refine lv_iconst (v := 1) hx hb dX10_stand_51 (by decide) ?_
        cases hf
        exact zewz hx hb hr hk (Or.inr rfl) hK hP hD hS dX10_stand_52
      · have hf := zif_t hb_9 hf
        refine lv_iconst (v := 0) hx hb dX10_stand_34 (by decide) ?_
        cases hf
        exact zewz hx hb hr hk (Or.inl rfl) hK hP hD hS dX10_stand_35
set_option maxHeartbeats 4000000 in
set_option maxRecDepth 100000 in
theorem c_CH_stand {l : Launch} {dC : Nat → ClassId} {dI : Nat → Nat → Nat} {cy : Nat → ClassId} {sz : Nat} {N : Nat} (o0 : Nat) (a0 : Nat → Nat) (s0 : zSt) (a1 : Nat → Nat) (s1 : zSt) (a2 : Nat → Nat) (s2 : zSt) (v1 : Int32) (v2 : Int32) {y : Int32 × zSt} (hf : CH_stand N s0 s1 s2 v1 v2 = some y) : Met l yX10_stand (.code yX10_stand cX10_stand 3 (some .boolean) :: zt) rm_CH_stand (va_Pc [.ref o0, .int v1, .int v2] (zPre (dC, dI) cy (wd_CH_stand cy o0 a0 (zI s0) (zL s0) a1 (zI s1) (zL s1) a2 (zI s2) (zL s2)) sz)) (zQi y.1 (dC, dI) cy (wd_CH_stand cy o0 a0 (zI s0) (zL s0) a1 (zI s1) (zL s1) a2 (zI y.2) (zL y.2)) (va_A (wd_CH_stand cy o0 a0 (zI s0) (zL s0) a1 (zI s1) (zL s1) a2 (zI s2) (zL s2)) sz)) 0 0 (va_A (wd_CH_stand cy o0 a0 (zI s0) (zL s0) a1 (zI s1) (zL s1) a2 (zI s2) (zL s2)) sz) :=
  zentW (Qw := fun A => (zQi y.1 (dC, dI) cy (wd_CH_stand cy o0 a0 (zI s0) (zL s0) a1 (zI s1) (zL s1) a2 (zI y.2) (zL y.2)) A)) (by decide +kernel) (Nat.le_of_ble_eq_true rfl) (fun p e s m below meth c A C0 hA hP hD hS ls hl => k_CH_stand_b0 C0 s0 s1 s2 v1 v2 hA hP hD hS hf ls hl)
def wd_CH_isPlace (cy : Nat → ClassId) : va_W := []
def rm_CH_isPlace : Room := { frames := 2, cells := 0, slots := 0, locals := 62 }
theorem rm_ok_CH_isPlace_CH_within : rm_CH_within.cells = 0 ∧ rm_CH_within.slots = 0 ∧ rm_CH_within.frames + 1 ≤ rm_CH_isPlace.frames ∧ 8 + (3 + 11) + rm_CH_within.locals ≤ rm_CH_isPlace.locals := by decide
set_option maxHeartbeats 4000000 in
set_option maxRecDepth 100000 in
theorem k_CH_isPlace_b0 {p : Program} {l : Launch} {e : Env} {s : State} {m : MethodId} {args : Array Value} {below : List Frame} {meth : Method} {c : Code} {dC : Nat → ClassId} {dI : Nat → Nat → Nat} {cy : Nat → ClassId} {N : Nat} {y : Int32} (C0 : zCx p s m args meth c cX10_isPlace 1 (some .boolean) RX10 (dC, dI) cy) (v0 : Int32) (hP : va_P (dC, dI) vwCl (wd_CH_isPlace cy) s.heap) (hf : CH_isPlace_b0 N v0 = some y) (ls : Array Slot) (hl : lv_has ls 1 [(0, .int v0)]) : W p l e rm_CH_isPlace s m args below meth c s.heap [] 0 0 (MQ below (zSi y) args s 0 0 (fun _ => False)) (F0 m 0 ls []) := by
  obtain ⟨hx, hb, hr, hml, hown, hT, hk, hK⟩ := id C0
  refine lv_iload_n hx hb dX10_isPlace_0 rfl (lv_at hl 0 rfl) ?_
  refine lv_iconst (v := 0) hx hb dX10_isPlace_1 (by decide) ?_
  refine lv_bipush (v := 99) hx hb dX10_isPlace_2 (by decide) ?_
  obtain ⟨z1, hc2, hf⟩ := zbd_some hf
  refine zri (zS (As := [.int v0, .int 0, .int 99]) hx hb hml hown hT hl.1 (c_CH_within v0 0 99 hc2) zY_CH_within tb_495 (zpS hK hP [] rfl) rm_ok_CH_isPlace_CH_within rfl rfl (Nat.le_of_ble_eq_true rfl) dX10_isPlace_4 ⟨Nat.zero_le _, Nat.zero_le _⟩) ?_
  obtain ⟨hq3, hf⟩ := zcb_some hf
  cases hf
  exact zerz hx hb hr hk hq3 dX10_isPlace_7
set_option maxHeartbeats 4000000 in
set_option maxRecDepth 100000 in
theorem c_CH_isPlace {l : Launch} {dC : Nat → ClassId} {dI : Nat → Nat → Nat} {cy : Nat → ClassId} {N : Nat} (v0 : Int32) {y : Int32} (hf : CH_isPlace N v0 = some y) : Met l yX10_isPlace (.code yX10_isPlace cX10_isPlace 1 (some .boolean) :: zt) rm_CH_isPlace (va_Pc [.int v0] (zRd (dC, dI) cy (wd_CH_isPlace cy))) (zSi y) 0 0 (fun _ => False) :=
  zentR (by decide +kernel) (Nat.le_of_ble_eq_true rfl) (fun p e s m below meth c C0 hP ls hl => k_CH_isPlace_b0 C0 v0 hP hf ls hl)
def wd_CH_isWind (cy : Nat → ClassId) : va_W := []
def rm_CH_isWind : Room := { frames := 2, cells := 0, slots := 0, locals := 62 }
theorem rm_ok_CH_isWind_CH_within : rm_CH_within.cells = 0 ∧ rm_CH_within.slots = 0 ∧ rm_CH_within.frames + 1 ≤ rm_CH_isWind.frames ∧ 8 + (3 + 11) + rm_CH_within.locals ≤ rm_CH_isWind.locals := by decide
set_option maxHeartbeats 4000000 in
set_option maxRecDepth 100000 in
theorem k_CH_isWind_b0 {p : Program} {l : Launch} {e : Env} {s : State} {m : MethodId} {args : Array Value} {below : List Frame} {meth : Method} {c : Code} {dC : Nat → ClassId} {dI : Nat → Nat → Nat} {cy : Nat → ClassId} {N : Nat} {y : Int32} (C0 : zCx p s m args meth c cX10_isWind 1 (some .boolean) RX10 (dC, dI) cy) (v0 : Int32) (hP : va_P (dC, dI) vwCl (wd_CH_isWind cy) s.heap) (hf : CH_isWind_b0 N v0 = some y) (ls : Array Slot) (hl : lv_has ls 1 [(0, .int v0)]) : W p l e rm_CH_isWind s m args below meth c s.heap [] 0 0 (MQ below (zSi y) args s 0 0 (fun _ => False)) (F0 m 0 ls []) := by
  obtain ⟨hx, hb, hr, hml, hown, hT, hk, hK⟩ := id C0
  refine lv_iload_n hx hb dX10_isWind_0 rfl (lv_at hl 0 rfl) ?_
  refine lv_iconst (v := 0) hx hb dX10_isWind_1 (by decide) ?_
  refine lv_bipush (v := 20) hx hb dX10_isWind_2 (by decide) ?_
  obtain ⟨z1, hc2, hf⟩ := zbd_some hf
  refine zri (zS (As := [.int v0, .int 0, .int 20]) hx hb hml hown hT hl.1 (c_CH_within v0 0 20 hc2) zY_CH_within tb_495 (zpS hK hP [] rfl) rm_ok_CH_isWind_CH_within rfl rfl (Nat.le_of_ble_eq_true rfl) dX10_isWind_4 ⟨Nat.zero_le _, Nat.zero_le _⟩) ?_
  obtain ⟨hq3, hf⟩ := zcb_some hf
  cases hf
  exact zerz hx hb hr hk hq3 dX10_isWind_7
set_option maxHeartbeats 4000000 in
set_option maxRecDepth 100000 in
theorem c_CH_isWind {l : Launch} {dC : Nat → ClassId} {dI : Nat → Nat → Nat} {cy : Nat → ClassId} {N : Nat} (v0 : Int32) {y : Int32} (hf : CH_isWind N v0 = some y) : Met l yX10_isWind (.code yX10_isWind cX10_isWind 1 (some .boolean) :: zt) rm_CH_isWind (va_Pc [.int v0] (zRd (dC, dI) cy (wd_CH_isWind cy))) (zSi y) 0 0 (fun _ => False) :=
  zentR (by decide +kernel) (Nat.le_of_ble_eq_true rfl) (fun p e s m below meth c C0 hP ls hl => k_CH_isWind_b0 C0 v0 hP hf ls hl)
def wd_CH_walk (cy : Nat → ClassId) (o0 : Nat) (a0 : Nat → Nat) (g0 : Nat → Int32) (h0 : Nat → Int64) (a1 : Nat → Nat) (g1 : Nat → Int32) (h1 : Nat → Int64) : va_W := [(o0, .inr (10, fs_CH a0 g0 h0)), ((a0 5), .inr (3, fs_Earnest a1 g1 h1))]
def rm_CH_walk : Room := { frames := 3, cells := 0, slots := 0, locals := 82 }
theorem rm_ok_CH_walk_CH_isPlace : rm_CH_isPlace.cells = 0 ∧ rm_CH_isPlace.slots = 0 ∧ rm_CH_isPlace.frames + 1 ≤ rm_CH_walk.frames ∧ 8 + (1 + 11) + rm_CH_isPlace.locals ≤ rm_CH_walk.locals := by decide
theorem rm_ok_CH_walk_CH_isWind : rm_CH_isWind.cells = 0 ∧ rm_CH_isWind.slots = 0 ∧ rm_CH_isWind.frames + 1 ≤ rm_CH_walk.frames ∧ 8 + (1 + 11) + rm_CH_isWind.locals ≤ rm_CH_walk.locals := by decide
set_option maxHeartbeats 4000000 in
set_option maxRecDepth 100000 in
theorem k_CH_walk_b0 {p : Program} {l : Launch} {e : Env} {s : State} {m : MethodId} {args : Array Value} {below : List Frame} {meth : Method} {c : Code} {dC : Nat → ClassId} {dI : Nat → Nat → Nat} {cy : Nat → ClassId} {A : Nat → Prop} {o0 : Nat} {a0 : Nat → Nat} {a1 : Nat → Nat} {N : Nat} {y : Int32 × zSt} (C0 : zCx p s m args meth c cX10_walk 4 (some .int) RX10 (dC, dI) cy) (s0 : zSt) (s1 : zSt) (v1 : Int32) (v2 : Int32) (hA : ∀ q, s.heap.size ≤ q → A q) {H : Heap} {locs : List Loc} (hP : va_P (dC, dI) vwCl (wd_CH_walk cy o0 a0 (zI s0) (zL s0) a1 (zI s1) (zL s1)) H) (hD : va_D A (wd_CH_walk cy o0 a0 (zI s0) (zL s0) a1 (zI s1) (zL s1))) (hS : va_S A s.heap H locs) (hf : CH_walk_b0 N s0 s1 v1 v2 = some y) (ls : Array Slot) (hl : lv_has ls 4 [(0, .ref o0), (1, .int v1), (2, .int v2)]) : W p l e rm_CH_walk s m args below meth c H locs 0 0 (MQ below (zQi y.1 (dC, dI) cy (wd_CH_walk cy o0 a0 (zI s0) (zL s0) a1 (zI y.2) (zL y.2)) A) args s 0 0 A) (F0 m 0 ls []) := by
  obtain ⟨hx, hb, hr, hml, hown, hT, hk, hK⟩ := id C0
  refine lv_iload_n hx hb dX10_walk_0 rfl (lv_at hl 1 rfl) ?_
  obtain ⟨z1, hc2, hf⟩ := zbd_some hf
  refine zri (zS (As := [.int v1]) hx hb hml hown hT hl.1 (c_CH_isPlace v1 hc2) zY_CH_isPlace tb_713 (zpS hK hP [] rfl) rm_ok_CH_walk_CH_isPlace rfl rfl (Nat.le_of_ble_eq_true rfl) dX10_walk_1 ⟨Nat.zero_le _, Nat.zero_le _⟩) ?_
  refine lv_if_eq (tgt := 14) hx hb dX10_walk_4 (by decide) (fun hb_3 => ?_) (fun hb_3 => ?_)
  · have hf := zif_t hb_3 hf
    refine lv_iconst (v := (-1)) hx hb dX10_walk_14 (by decide) ?_
    cases hf
    exact zewi hx hb hr hk hK hP hD hS dX10_walk_15
  · have hf := zif_f hb_3 hf
    refine lv_iload_n hx hb dX10_walk_7 rfl (lv_at hl 2 rfl) ?_
    obtain ⟨z4, hc5, hf⟩ := zbd_some hf
    refine zri (zS (As := [.int v2]) hx hb hml hown hT hl.1 (c_CH_isWind v2 hc5) zY_CH_isWind tb_716 (zpS hK hP [] rfl) rm_ok_CH_walk_CH_isWind rfl rfl (Nat.le_of_ble_eq_true rfl) dX10_walk_8 ⟨Nat.zero_le _, Nat.zero_le _⟩) ?_
    refine lv_if_ne (tgt := 16) hx hb dX10_walk_11 (by decide) (fun hb_6 => ?_) (fun hb_6 => ?_)
    · have hf := zif_f hb_6 hf
      refine lv_aload_n hx hb dX10_walk_16 rfl (lv_at hl 0 rfl) ?_
      refine zget (v := .ref (a0 5)) hx hb hown hT hK hP inX10 rfl smX10 0 rfl 5 (by decide) tb_436 rfl dX10_walk_17 ?_
      refine zget (v := .int (zI s1 2)) hx hb hown hT hK hP inX3 rfl smX3 1 rfl 2 (by decide) tb_178 rfl dX10_walk_20 ?_
      refine lv_istore_n (lv' := [(3, .int (zI s1 2)), (0, .ref o0), (1, .int v1), (2, .int v2)]) hx hb dX10_walk_23 rfl hl (by decide) rfl (fun ls hl => ?_)
      refine lv_aload_n hx hb dX10_walk_24 rfl (lv_at hl 1 rfl) ?_
      refine zget (v := .ref (a0 5)) hx hb hown hT hK hP inX10 rfl smX10 0 rfl 5 (by decide) tb_436 rfl dX10_walk_25 ?_
      refine lv_iload_n hx hb dX10_walk_28 rfl (lv_at hl 2 rfl) ?_
      refine zput (fs' := fs_Earnest a1 (upd (zI s1) 2 v1) (zL s1)) (ws' := (wd_CH_walk cy o0 a0 (zI s0) (zL s0) a1 (upd (zI s1) 2 v1) (zL s1))) hx hb hown hT hK hP hD hS inX3 rfl smX3 tyX3_ok nmX3 1 rfl 2 (by decide) tb_178 rfl rfl rfl (Nat.le_of_ble_eq_true rfl) rfl rfl dX10_walk_29 (fun H locs hP hD hS => ?_)
      refine lv_aload_n hx hb dX10_walk_32 rfl (lv_at hl 1 rfl) ?_
      refine zget (v := .ref (a0 5)) hx hb hown hT hK hP inX10 rfl smX10 0 rfl 5 (by decide) tb_436 rfl dX10_walk_33 ?_
      refine lv_iload_n hx hb dX10_walk_36 rfl (lv_at hl 3 rfl) ?_
      refine zput (fs' := fs_Earnest a1 (upd (upd (zI s1) 2 v1) 3 v2) (zL s1)) (ws' := (wd_CH_walk cy o0 a0 (zI s0) (zL s0) a1 (upd (upd (zI s1) 2 v1) 3 v2) (zL s1))) hx hb hown hT hK hP hD hS inX3 rfl smX3 tyX3_ok nmX3 1 rfl 3 (by decide) tb_180 rfl rfl rfl (Nat.le_of_ble_eq_true rfl) rfl rfl dX10_walk_37 (fun H locs hP hD hS => ?_)
      refine lv_iload_n hx hb dX10_walk_40 rfl (lv_at hl 0 rfl) ?_
      cases hf
      exact zewi hx hb hr hk hK hP hD hS dX10_walk_41
    · have hf := zif_t hb_6 hf
      refine lv_iconst (v := (-1)) hx hb dX10_walk_14 (by decide) ?_
      cases hf
      exact zewi hx hb hr hk hK hP hD hS dX10_walk_15
set_option maxHeartbeats 4000000 in
set_option maxRecDepth 100000 in
theorem c_CH_walk {l : Launch} {dC : Nat → ClassId} {dI : Nat → Nat → Nat} {cy : Nat → ClassId} {sz : Nat} {N : Nat} (o0 : Nat) (a0 : Nat → Nat) (s0 : zSt) (a1 : Nat → Nat) (s1 : zSt) (v1 : Int32) (v2 : Int32) {y : Int32 × zSt} (hf : CH_walk N s0 s1 v1 v2 = some y) : Met l yX10_walk (.code yX10_walk cX10_walk 4 (some .int) :: zt) rm_CH_walk (va_Pc [.ref o0, .int v1, .int v2] (zPre (dC, dI) cy (wd_CH_walk cy o0 a0 (zI s0) (zL s0) a1 (zI s1) (zL s1)) sz)) (zQi y.1 (dC, dI) cy (wd_CH_walk cy o0 a0 (zI s0) (zL s0) a1 (zI y.2) (zL y.2)) (va_A (wd_CH_walk cy o0 a0 (zI s0) (zL s0) a1 (zI s1) (zL s1)) sz)) 0 0 (va_A (wd_CH_walk cy o0 a0 (zI s0) (zL s0) a1 (zI s1) (zL s1)) sz) :=
  zentW (Qw := fun A => (zQi y.1 (dC, dI) cy (wd_CH_walk cy o0 a0 (zI s0) (zL s0) a1 (zI y.2) (zL y.2)) A)) (by decide +kernel) (Nat.le_of_ble_eq_true rfl) (fun p e s m below meth c A C0 hA hP hD hS ls hl => k_CH_walk_b0 C0 s0 s1 v1 v2 hA hP hD hS hf ls hl)
def wd_CH_crack (cy : Nat → ClassId) (o0 : Nat) (a0 : Nat → Nat) (g0 : Nat → Int32) (h0 : Nat → Int64) (a1 : Nat → Nat) (g1 : Nat → Int32) (h1 : Nat → Int64) (a2 : Nat → Nat) (g2 : Nat → Int32) (h2 : Nat → Int64) (x2_5 : Nat → Int32) : va_W := [(o0, .inr (10, fs_CH a0 g0 h0)), ((a0 3), .inr (9, fs_Valley a1 g1 h1)), ((a0 5), .inr (3, fs_Earnest a2 g2 h2)), (a2 5, .inl (cy 0, 11, .inl x2_5))]
def rm_CH_crack : Room := { frames := 3, cells := 0, slots := 0, locals := 83 }
theorem rm_ok_CH_crack_CH_within : rm_CH_within.cells = 0 ∧ rm_CH_within.slots = 0 ∧ rm_CH_within.frames + 1 ≤ rm_CH_crack.frames ∧ 8 + (3 + 11) + rm_CH_within.locals ≤ rm_CH_crack.locals := by decide
theorem rm_ok_CH_crack_Valley_hasBell : rm_Valley_hasBell.cells = 0 ∧ rm_Valley_hasBell.slots = 0 ∧ rm_Valley_hasBell.frames + 1 ≤ rm_CH_crack.frames ∧ 8 + (2 + 11) + rm_Valley_hasBell.locals ≤ rm_CH_crack.locals := by decide
set_option maxHeartbeats 4000000 in
set_option maxRecDepth 100000 in
theorem k_CH_crack_b0 {p : Program} {l : Launch} {e : Env} {s : State} {m : MethodId} {args : Array Value} {below : List Frame} {meth : Method} {c : Code} {dC : Nat → ClassId} {dI : Nat → Nat → Nat} {cy : Nat → ClassId} {A : Nat → Prop} {o0 : Nat} {a0 : Nat → Nat} {a1 : Nat → Nat} {a2 : Nat → Nat} {N : Nat} {y : Int32 × zSt} (C0 : zCx p s m args meth c cX10_crack 4 (some .int) RX10 (dC, dI) cy) (s0 : zSt) (s1 : zSt) (s2 : zSt) (v1 : Int32) (v2 : Int32) (hA : ∀ q, s.heap.size ≤ q → A q) {H : Heap} {locs : List Loc} (hP : va_P (dC, dI) vwCl (wd_CH_crack cy o0 a0 (zI s0) (zL s0) a1 (zI s1) (zL s1) a2 (zI s2) (zL s2) (zA s2 5)) H) (hD : va_D A (wd_CH_crack cy o0 a0 (zI s0) (zL s0) a1 (zI s1) (zL s1) a2 (zI s2) (zL s2) (zA s2 5))) (hS : va_S A s.heap H locs) (hf : CH_crack_b0 N s0 s1 s2 v1 v2 = some y) (ls : Array Slot) (hl : lv_has ls 4 [(0, .ref o0), (1, .int v1), (2, .int v2)]) : W p l e rm_CH_crack s m args below meth c H locs 0 0 (MQ below (zQi y.1 (dC, dI) cy (wd_CH_crack cy o0 a0 (zI s0) (zL s0) a1 (zI s1) (zL s1) a2 (zI y.2) (zL y.2) (zA y.2 5)) A) args s 0 0 A) (F0 m 0 ls []) := by
  obtain ⟨hx, hb, hr, hml, hown, hT, hk, hK⟩ := id C0
  refine lv_aload_n hx hb dX10_crack_0 rfl (lv_at hl 0 rfl) ?_
  refine zget (v := .ref (a0 3)) hx hb hown hT hK hP inX10 rfl smX10 0 rfl 3 (by decide) tb_434 rfl dX10_crack_1 ?_
  refine lv_iload_n hx hb dX10_crack_4 rfl (lv_at hl 1 rfl) ?_
  obtain ⟨z1, hc2, hf⟩ := zbd_some hf
  refine zri (zV (As := [.int v1]) hx hb hml hown hT hl.1 (c_Valley_hasBell (a0 3) a1 s1 v1 hc2) zY_Valley_hasBell tb_652 (zpR hK hP [1] rfl 0 9 rfl rfl rfl) rm_ok_CH_crack_Valley_hasBell rfl rfl (Nat.le_of_ble_eq_true rfl) dX10_crack_5 ⟨Nat.zero_le _, Nat.zero_le _⟩) ?_
  refine lv_if_eq (tgt := 20) hx hb dX10_crack_8 (by decide) (fun hb_3 => ?_) (fun hb_3 => ?_)
  · have hf := zif_t hb_3 hf
    refine lv_iconst (v := (-1)) hx hb dX10_crack_20 (by decide) ?_
    cases hf
    exact zewi hx hb hr hk hK hP hD hS dX10_crack_21
  · have hf := zif_f hb_3 hf
    refine lv_iload_n hx hb dX10_crack_11 rfl (lv_at hl 2 rfl) ?_
    refine lv_iconst (v := 0) hx hb dX10_crack_12 (by decide) ?_
    refine lv_iconst (v := 2) hx hb dX10_crack_13 (by decide) ?_
    obtain ⟨z4, hc5, hf⟩ := zbd_some hf
    refine zri (zS (As := [.int v2, .int 0, .int 2]) hx hb hml hown hT hl.1 (c_CH_within v2 0 2 hc5) zY_CH_within tb_495 (zpS hK hP [] rfl) rm_ok_CH_crack_CH_within rfl rfl (Nat.le_of_ble_eq_true rfl) dX10_crack_14 ⟨Nat.zero_le _, Nat.zero_le _⟩) ?_
    refine lv_if_ne (tgt := 22) hx hb dX10_crack_17 (by decide) (fun hb_6 => ?_) (fun hb_6 => ?_)
    · have hf := zif_f hb_6 hf
      refine lv_aload_n hx hb dX10_crack_22 rfl (lv_at hl 0 rfl) ?_
      refine zget (v := .ref (a0 5)) hx hb hown hT hK hP inX10 rfl smX10 0 rfl 5 (by decide) tb_436 rfl dX10_crack_23 ?_
      refine zget (v := .ref (a2 5)) hx hb hown hT hK hP inX3 rfl smX3 2 rfl 5 (by decide) tb_184 rfl dX10_crack_26 ?_
      refine lv_iload_n hx hb dX10_crack_29 rfl (lv_at hl 1 rfl) ?_
      obtain ⟨hi7, hf⟩ := zck_some hf
      refine va_iald hx hb hK.1 hP 3 0 rfl rfl hi7 dX10_crack_30 ?_
      refine lv_istore_n (lv' := [(3, .int ((zA s2 5) (Int32.toNatClampNeg v1))), (0, .ref o0), (1, .int v1), (2, .int v2)]) hx hb dX10_crack_31 rfl hl (by decide) rfl (fun ls hl => ?_)
      refine lv_aload_n hx hb dX10_crack_32 rfl (lv_at hl 1 rfl) ?_
      refine zget (v := .ref (a0 5)) hx hb hown hT hK hP inX10 rfl smX10 0 rfl 5 (by decide) tb_436 rfl dX10_crack_33 ?_
      refine zget (v := .ref (a2 5)) hx hb hown hT hK hP inX3 rfl smX3 2 rfl 5 (by decide) tb_184 rfl dX10_crack_36 ?_
      refine lv_iload_n hx hb dX10_crack_39 rfl (lv_at hl 2 rfl) ?_
      refine lv_iload_n hx hb dX10_crack_40 rfl (lv_at hl 3 rfl) ?_
      obtain ⟨hi8, hf⟩ := zck_some hf
      refine zast (ws' := (wd_CH_crack cy o0 a0 (zI s0) (zL s0) a1 (zI s1) (zL s1) a2 (zI s2) (zL s2) (upd (zA s2 5) (Int32.toNatClampNeg v1) v2))) hx hb hK hP hD hS 3 0 rfl rfl hi8 rfl dX10_crack_41 (fun H locs hP hD hS => ?_)
      refine lv_iload_n hx hb dX10_crack_42 rfl (lv_at hl 0 rfl) ?_
      cases hf
      exact zewi hx hb hr hk hK hP hD hS dX10_crack_43
    · have hf := zif_t hb_6 hf
      refine lv_iconst (v := (-1)) hx hb dX10_crack_20 (by decide) ?_
      cases hf
      exact zewi hx hb hr hk hK hP hD hS dX10_crack_21
set_option maxHeartbeats 4000000 in
set_option maxRecDepth 100000 in
theorem c_CH_crack {l : Launch} {dC : Nat → ClassId} {dI : Nat → Nat → Nat} {cy : Nat → ClassId} {sz : Nat} {N : Nat} (o0 : Nat) (a0 : Nat → Nat) (s0 : zSt) (a1 : Nat → Nat) (s1 : zSt) (a2 : Nat → Nat) (s2 : zSt) (v1 : Int32) (v2 : Int32) {y : Int32 × zSt} (hf : CH_crack N s0 s1 s2 v1 v2 = some y) : Met l yX10_crack (.code yX10_crack cX10_crack 4 (some .int) :: zt) rm_CH_crack (va_Pc [.ref o0, .int v1, .int v2] (zPre (dC, dI) cy (wd_CH_crack cy o0 a0 (zI s0) (zL s0) a1 (zI s1) (zL s1) a2 (zI s2) (zL s2) (zA s2 5)) sz)) (zQi y.1 (dC, dI) cy (wd_CH_crack cy o0 a0 (zI s0) (zL s0) a1 (zI s1) (zL s1) a2 (zI y.2) (zL y.2) (zA y.2 5)) (va_A (wd_CH_crack cy o0 a0 (zI s0) (zL s0) a1 (zI s1) (zL s1) a2 (zI s2) (zL s2) (zA s2 5)) sz)) 0 0 (va_A (wd_CH_crack cy o0 a0 (zI s0) (zL s0) a1 (zI s1) (zL s1) a2 (zI s2) (zL s2) (zA s2 5)) sz) :=
  zentW (Qw := fun A => (zQi y.1 (dC, dI) cy (wd_CH_crack cy o0 a0 (zI s0) (zL s0) a1 (zI s1) (zL s1) a2 (zI y.2) (zL y.2) (zA y.2 5)) A)) (by decide +kernel) (Nat.le_of_ble_eq_true rfl) (fun p e s m below meth c A C0 hA hP hD hS ls hl => k_CH_crack_b0 C0 s0 s1 s2 v1 v2 hA hP hD hS hf ls hl)
def wd_CH_years (cy : Nat → ClassId) (o0 : Nat) (a0 : Nat → Nat) (g0 : Nat → Int32) (h0 : Nat → Int64) (a1 : Nat → Nat) (g1 : Nat → Int32) (h1 : Nat → Int64) : va_W := [(o0, .inr (10, fs_CH a0 g0 h0)), ((a0 5), .inr (3, fs_Earnest a1 g1 h1))]
def rm_CH_years : Room := { frames := 2, cells := 0, slots := 0, locals := 62 }
theorem rm_ok_CH_years_CH_within : rm_CH_within.cells = 0 ∧ rm_CH_within.slots = 0 ∧ rm_CH_within.frames + 1 ≤ rm_CH_years.frames ∧ 8 + (3 + 11) + rm_CH_within.locals ≤ rm_CH_years.locals := by decide
set_option maxHeartbeats 4000000 in
set_option maxRecDepth 100000 in
theorem k_CH_years_b0 {p : Program} {l : Launch} {e : Env} {s : State} {m : MethodId} {args : Array Value} {below : List Frame} {meth : Method} {c : Code} {dC : Nat → ClassId} {dI : Nat → Nat → Nat} {cy : Nat → ClassId} {A : Nat → Prop} {o0 : Nat} {a0 : Nat → Nat} {a1 : Nat → Nat} {N : Nat} {y : Int32 × zSt} (C0 : zCx p s m args meth c cX10_years 2 (some .int) RX10 (dC, dI) cy) (s0 : zSt) (s1 : zSt) (v1 : Int32) (hA : ∀ q, s.heap.size ≤ q → A q) {H : Heap} {locs : List Loc} (hP : va_P (dC, dI) vwCl (wd_CH_years cy o0 a0 (zI s0) (zL s0) a1 (zI s1) (zL s1)) H) (hD : va_D A (wd_CH_years cy o0 a0 (zI s0) (zL s0) a1 (zI s1) (zL s1))) (hS : va_S A s.heap H locs) (hf : CH_years_b0 N s0 s1 v1 = some y) (ls : Array Slot) (hl : lv_has ls 2 [(0, .ref o0), (1, .int v1)]) : W p l e rm_CH_years s m args below meth c H locs 0 0 (MQ below (zQi y.1 (dC, dI) cy (wd_CH_years cy o0 a0 (zI s0) (zL s0) a1 (zI y.2) (zL y.2)) A) args s 0 0 A) (F0 m 0 ls []) := by
  obtain ⟨hx, hb, hr, hml, hown, hT, hk, hK⟩ := id C0
  refine lv_iload_n hx hb dX10_years_0 rfl (lv_at hl 1 rfl) ?_
  refine lv_iconst (v := 0) hx hb dX10_years_1 (by decide) ?_
  refine lv_bipush (v := 20) hx hb dX10_years_2 (by decide) ?_
  obtain ⟨z1, hc2, hf⟩ := zbd_some hf
  refine zri (zS (As := [.int v1, .int 0, .int 20]) hx hb hml hown hT hl.1 (c_CH_within v1 0 20 hc2) zY_CH_within tb_495 (zpS hK hP [] rfl) rm_ok_CH_years_CH_within rfl rfl (Nat.le_of_ble_eq_true rfl) dX10_years_4 ⟨Nat.zero_le _, Nat.zero_le _⟩) ?_
  refine lv_if_eq (tgt := 25) hx hb dX10_years_7 (by decide) (fun hb_3 => ?_) (fun hb_3 => ?_)
  · have hf := zif_t hb_3 hf
    refine lv_iconst (v := (-1)) hx hb dX10_years_25 (by decide) ?_
    cases hf
    exact zewi hx hb hr hk hK hP hD hS dX10_years_26
  · have hf := zif_f hb_3 hf
    refine lv_aload_n hx hb dX10_years_10 rfl (lv_at hl 0 rfl) ?_
    refine zget (v := .ref (a0 5)) hx hb hown hT hK hP inX10 rfl smX10 0 rfl 5 (by decide) tb_436 rfl dX10_years_11 ?_
    refine zget (v := .int (zI s1 4)) hx hb hown hT hK hP inX3 rfl smX3 1 rfl 4 (by decide) tb_182 rfl dX10_years_14 ?_
    refine lv_iload_n hx hb dX10_years_17 rfl (lv_at hl 1 rfl) ?_
    refine lv_iadd hx hb dX10_years_18 ?_
    refine lv_sipush (v := 200) hx hb dX10_years_19 (by decide) ?_
    refine lv_icmp_le (tgt := 27) hx hb dX10_years_22 (by decide) (fun hb_4 => ?_) (fun hb_4 => ?_)
    · have hf := zif_t hb_4 hf
      refine lv_aload_n hx hb dX10_years_27 rfl (lv_at hl 0 rfl) ?_
      refine zget (v := .ref (a0 5)) hx hb hown hT hK hP inX10 rfl smX10 0 rfl 5 (by decide) tb_436 rfl dX10_years_28 ?_
      refine lv_dup hx hb dX10_years_31 rfl ?_
      refine zget (v := .int (zI s1 4)) hx hb hown hT hK hP inX3 rfl smX3 1 rfl 4 (by decide) tb_182 rfl dX10_years_32 ?_
      refine lv_iload_n hx hb dX10_years_35 rfl (lv_at hl 1 rfl) ?_
      refine lv_iadd hx hb dX10_years_36 ?_
      refine zput (fs' := fs_Earnest a1 (upd (zI s1) 4 ((zI s1 4) + v1)) (zL s1)) (ws' := (wd_CH_years cy o0 a0 (zI s0) (zL s0) a1 (upd (zI s1) 4 ((zI s1 4) + v1)) (zL s1))) hx hb hown hT hK hP hD hS inX3 rfl smX3 tyX3_ok nmX3 1 rfl 4 (by decide) tb_182 rfl rfl rfl (Nat.le_of_ble_eq_true rfl) rfl rfl dX10_years_37 (fun H locs hP hD hS => ?_)
      refine lv_aload_n hx hb dX10_years_40 rfl (lv_at hl 0 rfl) ?_
      refine zget (v := .ref (a0 5)) hx hb hown hT hK hP inX10 rfl smX10 0 rfl 5 (by decide) tb_436 rfl dX10_years_41 ?_
      refine zget (v := .int ((zI s1 4) + v1)) hx hb hown hT hK hP inX3 rfl smX3 1 rfl 4 (by decide) tb_182 rfl dX10_years_44 ?_
      cases hf
      exact zewi hx hb hr hk hK hP hD hS dX10_years_47
    · have hf := zif_f hb_4 hf
      refine lv_iconst (v := (-1)) hx hb dX10_years_25 (by decide) ?_
      cases hf
      exact zewi hx hb hr hk hK hP hD hS dX10_years_26
set_option maxHeartbeats 4000000 in
set_option maxRecDepth 100000 in
theorem c_CH_years {l : Launch} {dC : Nat → ClassId} {dI : Nat → Nat → Nat} {cy : Nat → ClassId} {sz : Nat} {N : Nat} (o0 : Nat) (a0 : Nat → Nat) (s0 : zSt) (a1 : Nat → Nat) (s1 : zSt) (v1 : Int32) {y : Int32 × zSt} (hf : CH_years N s0 s1 v1 = some y) : Met l yX10_years (.code yX10_years cX10_years 2 (some .int) :: zt) rm_CH_years (va_Pc [.ref o0, .int v1] (zPre (dC, dI) cy (wd_CH_years cy o0 a0 (zI s0) (zL s0) a1 (zI s1) (zL s1)) sz)) (zQi y.1 (dC, dI) cy (wd_CH_years cy o0 a0 (zI s0) (zL s0) a1 (zI y.2) (zL y.2)) (va_A (wd_CH_years cy o0 a0 (zI s0) (zL s0) a1 (zI s1) (zL s1)) sz)) 0 0 (va_A (wd_CH_years cy o0 a0 (zI s0) (zL s0) a1 (zI s1) (zL s1)) sz) :=
  zentW (Qw := fun A => (zQi y.1 (dC, dI) cy (wd_CH_years cy o0 a0 (zI s0) (zL s0) a1 (zI y.2) (zL y.2)) A)) (by decide +kernel) (Nat.le_of_ble_eq_true rfl) (fun p e s m below meth c A C0 hA hP hD hS ls hl => k_CH_years_b0 C0 s0 s1 v1 hA hP hD hS hf ls hl)
def wd_CH_isQuarter (cy : Nat → ClassId) : va_W := []
def rm_CH_isQuarter : Room := { frames := 2, cells := 0, slots := 0, locals := 62 }
theorem rm_ok_CH_isQuarter_CH_within : rm_CH_within.cells = 0 ∧ rm_CH_within.slots = 0 ∧ rm_CH_within.frames + 1 ≤ rm_CH_isQuarter.frames ∧ 8 + (3 + 11) + rm_CH_within.locals ≤ rm_CH_isQuarter.locals := by decide
set_option maxHeartbeats 4000000 in
set_option maxRecDepth 100000 in
theorem k_CH_isQuarter_b0 {p : Program} {l : Launch} {e : Env} {s : State} {m : MethodId} {args : Array Value} {below : List Frame} {meth : Method} {c : Code} {dC : Nat → ClassId} {dI : Nat → Nat → Nat} {cy : Nat → ClassId} {N : Nat} {y : Int32} (C0 : zCx p s m args meth c cX10_isQuarter 1 (some .boolean) RX10 (dC, dI) cy) (v0 : Int32) (hP : va_P (dC, dI) vwCl (wd_CH_isQuarter cy) s.heap) (hf : CH_isQuarter_b0 N v0 = some y) (ls : Array Slot) (hl : lv_has ls 1 [(0, .int v0)]) : W p l e rm_CH_isQuarter s m args below meth c s.heap [] 0 0 (MQ below (zSi y) args s 0 0 (fun _ => False)) (F0 m 0 ls []) := by
  obtain ⟨hx, hb, hr, hml, hown, hT, hk, hK⟩ := id C0
  refine lv_iload_n hx hb dX10_isQuarter_0 rfl (lv_at hl 0 rfl) ?_
  refine lv_iconst (v := 0) hx hb dX10_isQuarter_1 (by decide) ?_
  refine lv_bipush (v := 95) hx hb dX10_isQuarter_2 (by decide) ?_
  obtain ⟨z1, hc2, hf⟩ := zbd_some hf
  refine zri (zS (As := [.int v0, .int 0, .int 95]) hx hb hml hown hT hl.1 (c_CH_within v0 0 95 hc2) zY_CH_within tb_495 (zpS hK hP [] rfl) rm_ok_CH_isQuarter_CH_within rfl rfl (Nat.le_of_ble_eq_true rfl) dX10_isQuarter_4 ⟨Nat.zero_le _, Nat.zero_le _⟩) ?_
  obtain ⟨hq3, hf⟩ := zcb_some hf
  cases hf
  exact zerz hx hb hr hk hq3 dX10_isQuarter_7
set_option maxHeartbeats 4000000 in
set_option maxRecDepth 100000 in
theorem c_CH_isQuarter {l : Launch} {dC : Nat → ClassId} {dI : Nat → Nat → Nat} {cy : Nat → ClassId} {N : Nat} (v0 : Int32) {y : Int32} (hf : CH_isQuarter N v0 = some y) : Met l yX10_isQuarter (.code yX10_isQuarter cX10_isQuarter 1 (some .boolean) :: zt) rm_CH_isQuarter (va_Pc [.int v0] (zRd (dC, dI) cy (wd_CH_isQuarter cy))) (zSi y) 0 0 (fun _ => False) :=
  zentR (by decide +kernel) (Nat.le_of_ble_eq_true rfl) (fun p e s m below meth c C0 hP ls hl => k_CH_isQuarter_b0 C0 v0 hP hf ls hl)
def wd_CH_sound (cy : Nat → ClassId) (o0 : Nat) (a0 : Nat → Nat) (g0 : Nat → Int32) (h0 : Nat → Int64) (a1 : Nat → Nat) (g1 : Nat → Int32) (h1 : Nat → Int64) (a2 : Nat → Nat) (g2 : Nat → Int32) (h2 : Nat → Int64) (x2_1 : Nat → Int32) (x2_2 : Nat → Int32) (x2_3 : Nat → Int32) (x2_4 : Nat → Int32) (x2_5 : Nat → Int32) (x2_6 : Nat → Int32) (x2_7 : Nat → Int32) : va_W := [(o0, .inr (10, fs_CH a0 g0 h0)), ((a0 3), .inr (9, fs_Valley a1 g1 h1)), ((a0 8), .inr (4, fs_Entries a2 g2 h2)), (a2 1, .inl (cy 0, 40, .inl x2_1)), (a2 2, .inl (cy 0, 40, .inl x2_2)), (a2 3, .inl (cy 0, 40, .inl x2_3)), (a2 4, .inl (cy 0, 40, .inl x2_4)), (a2 5, .inl (cy 0, 40, .inl x2_5)), (a2 6, .inl (cy 0, 40, .inl x2_6)), (a2 7, .inl (cy 0, 40, .inl x2_7))]
def rm_CH_sound : Room := { frames := 3, cells := 0, slots := 0, locals := 83 }
theorem rm_ok_CH_sound_CH_isQuarter : rm_CH_isQuarter.cells = 0 ∧ rm_CH_isQuarter.slots = 0 ∧ rm_CH_isQuarter.frames + 1 ≤ rm_CH_sound.frames ∧ 8 + (1 + 11) + rm_CH_isQuarter.locals ≤ rm_CH_sound.locals := by decide
theorem rm_ok_CH_sound_CH_within : rm_CH_within.cells = 0 ∧ rm_CH_within.slots = 0 ∧ rm_CH_within.frames + 1 ≤ rm_CH_sound.frames ∧ 8 + (3 + 11) + rm_CH_within.locals ≤ rm_CH_sound.locals := by decide
theorem rm_ok_CH_sound_Entries_add : rm_Entries_add.cells = 0 ∧ rm_Entries_add.slots = 0 ∧ rm_Entries_add.frames + 1 ≤ rm_CH_sound.frames ∧ 8 + (7 + 11) + rm_Entries_add.locals ≤ rm_CH_sound.locals := by decide
theorem rm_ok_CH_sound_Valley_hasEar : rm_Valley_hasEar.cells = 0 ∧ rm_Valley_hasEar.slots = 0 ∧ rm_Valley_hasEar.frames + 1 ≤ rm_CH_sound.frames ∧ 8 + (2 + 11) + rm_Valley_hasEar.locals ≤ rm_CH_sound.locals := by decide
set_option maxHeartbeats 4000000 in
set_option maxRecDepth 100000 in
theorem k_CH_sound_b0 {p : Program} {l : Launch} {e : Env} {s : State} {m : MethodId} {args : Array Value} {below : List Frame} {meth : Method} {c : Code} {dC : Nat → ClassId} {dI : Nat → Nat → Nat} {cy : Nat → ClassId} {A : Nat → Prop} {o0 : Nat} {a0 : Nat → Nat} {a1 : Nat → Nat} {a2 : Nat → Nat} {N : Nat} {y : Int32 × zSt} (C0 : zCx p s m args meth c cX10_sound 6 (some .int) RX10 (dC, dI) cy) (s0 : zSt) (s1 : zSt) (s2 : zSt) (v1 : Int32) (v2 : Int32) (v3 : Int32) (v4 : Int32) (v5 : Int32) (hA : ∀ q, s.heap.size ≤ q → A q) {H : Heap} {locs : List Loc} (hP : va_P (dC, dI) vwCl (wd_CH_sound cy o0 a0 (zI s0) (zL s0) a1 (zI s1) (zL s1) a2 (zI s2) (zL s2) (zA s2 1) (zA s2 2) (zA s2 3) (zA s2 4) (zA s2 5) (zA s2 6) (zA s2 7)) H) (hD : va_D A (wd_CH_sound cy o0 a0 (zI s0) (zL s0) a1 (zI s1) (zL s1) a2 (zI s2) (zL s2) (zA s2 1) (zA s2 2) (zA s2 3) (zA s2 4) (zA s2 5) (zA s2 6) (zA s2 7))) (hS : va_S A s.heap H locs) (hf : CH_sound_b0 N s0 s1 s2 v1 v2 v3 v4 v5 = some y) (ls : Array Slot) (hl : lv_has ls 6 [(0, .ref o0), (1, .int v1), (2, .int v2), (3, .int v3), (4, .int v4), (5, .int v5)]) : W p l e rm_CH_sound s m args below meth c H locs 0 0 (MQ below (zQi y.1 (dC, dI) cy (wd_CH_sound cy o0 a0 (zI s0) (zL s0) a1 (zI s1) (zL s1) a2 (zI y.2) (zL y.2) (zA y.2 1) (zA y.2 2) (zA y.2 3) (zA y.2 4) (zA y.2 5) (zA y.2 6) (zA y.2 7)) A) args s 0 0 A) (F0 m 0 ls []) := by
  obtain ⟨hx, hb, hr, hml, hown, hT, hk, hK⟩ := id C0
  refine lv_iload_n hx hb dX10_sound_0 rfl (lv_at hl 1 rfl) ?_
  obtain ⟨z1, hc2, hf⟩ := zbd_some hf
  refine zri (zS (As := [.int v1]) hx hb hml hown hT hl.1 (c_CH_isQuarter v1 hc2) zY_CH_isQuarter tb_731 (zpS hK hP [] rfl) rm_ok_CH_sound_CH_isQuarter rfl rfl (Nat.le_of_ble_eq_true rfl) dX10_sound_1 ⟨Nat.zero_le _, Nat.zero_le _⟩) ?_
  refine lv_if_eq (tgt := 28) hx hb dX10_sound_4 (by decide) (fun hb_3 => ?_) (fun hb_3 => ?_)
  · have hf := zif_t hb_3 hf
    refine lv_iconst (v := (-1)) hx hb dX10_sound_28 (by decide) ?_
    cases hf
    exact zewi hx hb hr hk hK hP hD hS dX10_sound_29
  · have hf := zif_f hb_3 hf
    refine lv_aload_n hx hb dX10_sound_7 rfl (lv_at hl 0 rfl) ?_
    refine zget (v := .ref (a0 3)) hx hb hown hT hK hP inX10 rfl smX10 0 rfl 3 (by decide) tb_434 rfl dX10_sound_8 ?_
    refine lv_iload_n hx hb dX10_sound_11 rfl (lv_at hl 2 rfl) ?_
    obtain ⟨z4, hc5, hf⟩ := zbd_some hf
    refine zri (zV (As := [.int v2]) hx hb hml hown hT hl.1 (c_Valley_hasEar (a0 3) a1 s1 v2 hc5) zY_Valley_hasEar tb_668 (zpR hK hP [1] rfl 0 9 rfl rfl rfl) rm_ok_CH_sound_Valley_hasEar rfl rfl (Nat.le_of_ble_eq_true rfl) dX10_sound_12 ⟨Nat.zero_le _, Nat.zero_le _⟩) ?_
    refine lv_if_eq (tgt := 28) hx hb dX10_sound_15 (by decide) (fun hb_6 => ?_) (fun hb_6 => ?_)
    · have hf := zif_t hb_6 hf
      refine lv_iconst (v := (-1)) hx hb dX10_sound_28 (by decide) ?_
      cases hf
      exact zewi hx hb hr hk hK hP hD hS dX10_sound_29
    · have hf := zif_f hb_6 hf
      refine lv_iload_n hx hb dX10_sound_18 rfl (lv_at hl 3 rfl) ?_
      refine lv_iconst (v := 0) hx hb dX10_sound_19 (by decide) ?_
      refine lv_bipush (v := 11) hx hb dX10_sound_20 (by decide) ?_
      obtain ⟨z7, hc8, hf⟩ := zbd_some hf
      refine zri (zS (As := [.int v3, .int 0, .int 11]) hx hb hml hown hT hl.1 (c_CH_within v3 0 11 hc8) zY_CH_within tb_495 (zpS hK hP [] rfl) rm_ok_CH_sound_CH_within rfl rfl (Nat.le_of_ble_eq_true rfl) dX10_sound_22 ⟨Nat.zero_le _, Nat.zero_le _⟩) ?_
      refine lv_if_ne (tgt := 30) hx hb dX10_sound_25 (by decide) (fun hb_9 => ?_) (fun hb_9 => ?_)
      · have hf := zif_f hb_9 hf
        refine lv_iload hx hb dX10_sound_30 (lv_at hl 4 rfl) ?_
        refine lv_iconst (v := 0) hx hb dX10_sound_32 (by decide) ?_
        refine lv_sipush (v := 999) hx hb dX10_sound_33 (by decide) ?_
        obtain ⟨z10, hc11, hf⟩ := zbd_some hf
        refine zri (zS (As := [.int v4, .int 0, .int 999]) hx hb hml hown hT hl.1 (c_CH_within v4 0 999 hc11) zY_CH_within tb_495 (zpS hK hP [] rfl) rm_ok_CH_sound_CH_within rfl rfl (Nat.le_of_ble_eq_true rfl) dX10_sound_36 ⟨Nat.zero_le _, Nat.zero_le _⟩) ?_
        refine lv_if_eq (tgt := 55) hx hb dX10_sound_39 (by decide) (fun hb_12 => ?_) (fun hb_12 => ?_)
        · have hf := zif_t hb_12 hf
          refine lv_iconst (v := (-1)) hx hb dX10_sound_55 (by decide) ?_
          cases hf
          exact zewi hx hb hr hk hK hP hD hS dX10_sound_56
        · have hf := zif_f hb_12 hf
          refine lv_iload hx hb dX10_sound_42 (lv_at hl 5 rfl) ?_
          refine lv_iload hx hb dX10_sound_44 (lv_at hl 4 rfl) ?_
          refine lv_sipush (v := 999) hx hb dX10_sound_46 (by decide) ?_
          obtain ⟨z13, hc14, hf⟩ := zbd_some hf
          refine zri (zS (As := [.int v5, .int v4, .int 999]) hx hb hml hown hT hl.1 (c_CH_within v5 v4 999 hc14) zY_CH_within tb_495 (zpS hK hP [] rfl) rm_ok_CH_sound_CH_within rfl rfl (Nat.le_of_ble_eq_true rfl) dX10_sound_49 ⟨Nat.zero_le _, Nat.zero_le _⟩) ?_
          refine lv_if_ne (tgt := 57) hx hb dX10_sound_52 (by decide) (fun hb_15 => ?_) (fun hb_15 => ?_)
          · have hf := zif_f hb_15 hf
            refine lv_aload_n hx hb dX10_sound_57 rfl (lv_at hl 0 rfl) ?_
            refine zget (v := .ref (a0 8)) hx hb hown hT hK hP inX10 rfl smX10 0 rfl 8 (by decide) tb_439 rfl dX10_sound_58 ?_
            refine lv_iload_n hx hb dX10_sound_61 rfl (lv_at hl 1 rfl) ?_
            refine lv_iload_n hx hb dX10_sound_62 rfl (lv_at hl 2 rfl) ?_
            refine lv_iload_n hx hb dX10_sound_63 rfl (lv_at hl 3 rfl) ?_
            refine lv_iload hx hb dX10_sound_64 (lv_at hl 4 rfl) ?_
            refine lv_iload hx hb dX10_sound_66 (lv_at hl 5 rfl) ?_
            refine lv_aload_n hx hb dX10_sound_68 rfl (lv_at hl 0 rfl) ?_
            refine zget (v := .int (zI s0 9)) hx hb hown hT hK hP inX10 rfl smX10 0 rfl 9 (by decide) tb_440 rfl dX10_sound_69 ?_
            obtain ⟨z16, hc17, hf⟩ := zbd_some hf
            refine zwi (wr := [(o0, .inr (10, fs_CH a0 (zI s0) (zL s0))), ((a0 3), .inr (9, fs_Valley a1 (zI s1) (zL s1)))]) (ws' := (wd_CH_sound cy o0 a0 (zI s0) (zL s0) a1 (zI s1) (zL s1) a2 (zI z16.2) (zL z16.2) (zA z16.2 1) (zA z16.2 2) (zA z16.2 3) (zA z16.2 4) (zA z16.2 5) (zA z16.2 6) (zA z16.2 7))) (zV (As := [.int v1, .int v2, .int v3, .int v4, .int v5, .int (zI s0 9)]) hx hb hml hown hT hl.1 (c_Entries_add (a0 8) a2 s2 v1 v2 v3 v4 v5 (zI s0 9) hc17) zY_Entries_add tb_734 (zpRw hK hP hD [2, 3, 4, 5, 6, 7, 8, 9] (by decide) rfl 0 4 rfl rfl rfl rfl) rm_ok_CH_sound_Entries_add rfl rfl (Nat.le_of_ble_eq_true rfl) dX10_sound_72 ⟨Nat.zero_le _, Nat.zero_le _⟩) hP hD hS hA [2, 3, 4, 5, 6, 7, 8, 9] [0, 1] [0, 1, 2, 3, 4, 5, 6, 7, 8, 9] rfl rfl (by decide) (by decide) (by decide) rfl rfl (fun H locs hP hD hS => ?_)
            cases hf
            exact zewi hx hb hr hk hK hP hD hS dX10_sound_75
          · have hf := zif_t hb_15 hf
            refine lv_iconst (v := (-1)) hx hb dX10_sound_55 (by decide) ?_
            cases hf
            exact zewi hx hb hr hk hK hP hD hS dX10_sound_56
      · have hf := zif_t hb_9 hf
        refine lv_iconst (v := (-1)) hx hb dX10_sound_28 (by decide) ?_
        cases hf
        exact zewi hx hb hr hk hK hP hD hS dX10_sound_29
set_option maxHeartbeats 4000000 in
set_option maxRecDepth 100000 in
theorem c_CH_sound {l : Launch} {dC : Nat → ClassId} {dI : Nat → Nat → Nat} {cy : Nat → ClassId} {sz : Nat} {N : Nat} (o0 : Nat) (a0 : Nat → Nat) (s0 : zSt) (a1 : Nat → Nat) (s1 : zSt) (a2 : Nat → Nat) (s2 : zSt) (v1 : Int32) (v2 : Int32) (v3 : Int32) (v4 : Int32) (v5 : Int32) {y : Int32 × zSt} (hf : CH_sound N s0 s1 s2 v1 v2 v3 v4 v5 = some y) : Met l yX10_sound (.code yX10_sound cX10_sound 6 (some .int) :: zt) rm_CH_sound (va_Pc [.ref o0, .int v1, .int v2, .int v3, .int v4, .int v5] (zPre (dC, dI) cy (wd_CH_sound cy o0 a0 (zI s0) (zL s0) a1 (zI s1) (zL s1) a2 (zI s2) (zL s2) (zA s2 1) (zA s2 2) (zA s2 3) (zA s2 4) (zA s2 5) (zA s2 6) (zA s2 7)) sz)) (zQi y.1 (dC, dI) cy (wd_CH_sound cy o0 a0 (zI s0) (zL s0) a1 (zI s1) (zL s1) a2 (zI y.2) (zL y.2) (zA y.2 1) (zA y.2 2) (zA y.2 3) (zA y.2 4) (zA y.2 5) (zA y.2 6) (zA y.2 7)) (va_A (wd_CH_sound cy o0 a0 (zI s0) (zL s0) a1 (zI s1) (zL s1) a2 (zI s2) (zL s2) (zA s2 1) (zA s2 2) (zA s2 3) (zA s2 4) (zA s2 5) (zA s2 6) (zA s2 7)) sz)) 0 0 (va_A (wd_CH_sound cy o0 a0 (zI s0) (zL s0) a1 (zI s1) (zL s1) a2 (zI s2) (zL s2) (zA s2 1) (zA s2 2) (zA s2 3) (zA s2 4) (zA s2 5) (zA s2 6) (zA s2 7)) sz) :=
  zentW (Qw := fun A => (zQi y.1 (dC, dI) cy (wd_CH_sound cy o0 a0 (zI s0) (zL s0) a1 (zI s1) (zL s1) a2 (zI y.2) (zL y.2) (zA y.2 1) (zA y.2 2) (zA y.2 3) (zA y.2 4) (zA y.2 5) (zA y.2 6) (zA y.2 7)) A)) (by decide +kernel) (Nat.le_of_ble_eq_true rfl) (fun p e s m below meth c A C0 hA hP hD hS ls hl => k_CH_sound_b0 C0 s0 s1 s2 v1 v2 v3 v4 v5 hA hP hD hS hf ls hl)
def wd_CH_evening (cy : Nat → ClassId) (o0 : Nat) (a0 : Nat → Nat) (g0 : Nat → Int32) (h0 : Nat → Int64) (a1 : Nat → Nat) (g1 : Nat → Int32) (h1 : Nat → Int64) (x1_1 : Nat → Int32) (x1_2 : Nat → Int32) (x1_3 : Nat → Int32) (x1_4 : Nat → Int32) (x1_5 : Nat → Int32) (x1_6 : Nat → Int32) (x1_7 : Nat → Int32) : va_W := [(o0, .inr (10, fs_CH a0 g0 h0)), ((a0 8), .inr (4, fs_Entries a1 g1 h1)), (a1 1, .inl (cy 0, 40, .inl x1_1)), (a1 2, .inl (cy 0, 40, .inl x1_2)), (a1 3, .inl (cy 0, 40, .inl x1_3)), (a1 4, .inl (cy 0, 40, .inl x1_4)), (a1 5, .inl (cy 0, 40, .inl x1_5)), (a1 6, .inl (cy 0, 40, .inl x1_6)), (a1 7, .inl (cy 0, 40, .inl x1_7))]
def rm_CH_evening : Room := { frames := 2, cells := 0, slots := 0, locals := 66 }
theorem rm_ok_CH_evening_CH_within : rm_CH_within.cells = 0 ∧ rm_CH_within.slots = 0 ∧ rm_CH_within.frames + 1 ≤ rm_CH_evening.frames ∧ 8 + (3 + 11) + rm_CH_within.locals ≤ rm_CH_evening.locals := by decide
theorem rm_ok_CH_evening_Entries_add : rm_Entries_add.cells = 0 ∧ rm_Entries_add.slots = 0 ∧ rm_Entries_add.frames + 1 ≤ rm_CH_evening.frames ∧ 8 + (7 + 11) + rm_Entries_add.locals ≤ rm_CH_evening.locals := by decide
set_option maxHeartbeats 4000000 in
set_option maxRecDepth 100000 in
theorem k_CH_evening_b0 {p : Program} {l : Launch} {e : Env} {s : State} {m : MethodId} {args : Array Value} {below : List Frame} {meth : Method} {c : Code} {dC : Nat → ClassId} {dI : Nat → Nat → Nat} {cy : Nat → ClassId} {A : Nat → Prop} {o0 : Nat} {a0 : Nat → Nat} {a1 : Nat → Nat} {N : Nat} {y : Int32 × zSt} (C0 : zCx p s m args meth c cX10_evening 3 (some .int) RX10 (dC, dI) cy) (s0 : zSt) (s1 : zSt) (v1 : Int32) (v2 : Int32) (hA : ∀ q, s.heap.size ≤ q → A q) {H : Heap} {locs : List Loc} (hP : va_P (dC, dI) vwCl (wd_CH_evening cy o0 a0 (zI s0) (zL s0) a1 (zI s1) (zL s1) (zA s1 1) (zA s1 2) (zA s1 3) (zA s1 4) (zA s1 5) (zA s1 6) (zA s1 7)) H) (hD : va_D A (wd_CH_evening cy o0 a0 (zI s0) (zL s0) a1 (zI s1) (zL s1) (zA s1 1) (zA s1 2) (zA s1 3) (zA s1 4) (zA s1 5) (zA s1 6) (zA s1 7))) (hS : va_S A s.heap H locs) (hf : CH_evening_b0 N s0 s1 v1 v2 = some y) (ls : Array Slot) (hl : lv_has ls 3 [(0, .ref o0), (1, .int v1), (2, .int v2)]) : W p l e rm_CH_evening s m args below meth c H locs 0 0 (MQ below (zQi y.1 (dC, dI) cy (wd_CH_evening cy o0 a0 (zI s0) (zL s0) a1 (zI y.2) (zL y.2) (zA y.2 1) (zA y.2 2) (zA y.2 3) (zA y.2 4) (zA y.2 5) (zA y.2 6) (zA y.2 7)) A) args s 0 0 A) (F0 m 0 ls []) := by
  obtain ⟨hx, hb, hr, hml, hown, hT, hk, hK⟩ := id C0
  refine lv_iload_n hx hb dX10_evening_0 rfl (lv_at hl 1 rfl) ?_
  refine lv_iconst (v := 0) hx hb dX10_evening_1 (by decide) ?_
  refine lv_bipush (v := 20) hx hb dX10_evening_2 (by decide) ?_
  obtain ⟨z1, hc2, hf⟩ := zbd_some hf
  refine zri (zS (As := [.int v1, .int 0, .int 20]) hx hb hml hown hT hl.1 (c_CH_within v1 0 20 hc2) zY_CH_within tb_495 (zpS hK hP [] rfl) rm_ok_CH_evening_CH_within rfl rfl (Nat.le_of_ble_eq_true rfl) dX10_evening_4 ⟨Nat.zero_le _, Nat.zero_le _⟩) ?_
  refine lv_if_eq (tgt := 21) hx hb dX10_evening_7 (by decide) (fun hb_3 => ?_) (fun hb_3 => ?_)
  · have hf := zif_t hb_3 hf
    refine lv_iconst (v := (-1)) hx hb dX10_evening_21 (by decide) ?_
    cases hf
    exact zewi hx hb hr hk hK hP hD hS dX10_evening_22
  · have hf := zif_f hb_3 hf
    refine lv_iload_n hx hb dX10_evening_10 rfl (lv_at hl 2 rfl) ?_
    refine lv_iconst (v := 0) hx hb dX10_evening_11 (by decide) ?_
    refine lv_sipush (v := 4095) hx hb dX10_evening_12 (by decide) ?_
    obtain ⟨z4, hc5, hf⟩ := zbd_some hf
    refine zri (zS (As := [.int v2, .int 0, .int 4095]) hx hb hml hown hT hl.1 (c_CH_within v2 0 4095 hc5) zY_CH_within tb_495 (zpS hK hP [] rfl) rm_ok_CH_evening_CH_within rfl rfl (Nat.le_of_ble_eq_true rfl) dX10_evening_15 ⟨Nat.zero_le _, Nat.zero_le _⟩) ?_
    refine lv_if_ne (tgt := 23) hx hb dX10_evening_18 (by decide) (fun hb_6 => ?_) (fun hb_6 => ?_)
    · have hf := zif_f hb_6 hf
      refine lv_aload_n hx hb dX10_evening_23 rfl (lv_at hl 0 rfl) ?_
      refine zget (v := .ref (a0 8)) hx hb hown hT hK hP inX10 rfl smX10 0 rfl 8 (by decide) tb_439 rfl dX10_evening_24 ?_
      refine lv_iload_n hx hb dX10_evening_27 rfl (lv_at hl 1 rfl) ?_
      refine lv_iconst (v := (-1)) hx hb dX10_evening_28 (by decide) ?_
      refine lv_iload_n hx hb dX10_evening_29 rfl (lv_at hl 2 rfl) ?_
      refine lv_iconst (v := 0) hx hb dX10_evening_30 (by decide) ?_
      refine lv_iconst (v := 0) hx hb dX10_evening_31 (by decide) ?_
      refine lv_aload_n hx hb dX10_evening_32 rfl (lv_at hl 0 rfl) ?_
      refine zget (v := .int (zI s0 9)) hx hb hown hT hK hP inX10 rfl smX10 0 rfl 9 (by decide) tb_440 rfl dX10_evening_33 ?_
      obtain ⟨z7, hc8, hf⟩ := zbd_some hf
      refine zwi (wr := [(o0, .inr (10, fs_CH a0 (zI s0) (zL s0)))]) (ws' := (wd_CH_evening cy o0 a0 (zI s0) (zL s0) a1 (zI z7.2) (zL z7.2) (zA z7.2 1) (zA z7.2 2) (zA z7.2 3) (zA z7.2 4) (zA z7.2 5) (zA z7.2 6) (zA z7.2 7))) (zV (As := [.int v1, .int (-1), .int v2, .int 0, .int 0, .int (zI s0 9)]) hx hb hml hown hT hl.1 (c_Entries_add (a0 8) a1 s1 v1 (-1) v2 0 0 (zI s0 9) hc8) zY_Entries_add tb_734 (zpRw hK hP hD [1, 2, 3, 4, 5, 6, 7, 8] (by decide) rfl 0 4 rfl rfl rfl rfl) rm_ok_CH_evening_Entries_add rfl rfl (Nat.le_of_ble_eq_true rfl) dX10_evening_36 ⟨Nat.zero_le _, Nat.zero_le _⟩) hP hD hS hA [1, 2, 3, 4, 5, 6, 7, 8] [0] [0, 1, 2, 3, 4, 5, 6, 7, 8] rfl rfl (by decide) (by decide) (by decide) rfl rfl (fun H locs hP hD hS => ?_)
      cases hf
      exact zewi hx hb hr hk hK hP hD hS dX10_evening_39
    · have hf := zif_t hb_6 hf
      refine lv_iconst (v := (-1)) hx hb dX10_evening_21 (by decide) ?_
      cases hf
      exact zewi hx hb hr hk hK hP hD hS dX10_evening_22
set_option maxHeartbeats 4000000 in
set_option maxRecDepth 100000 in
theorem c_CH_evening {l : Launch} {dC : Nat → ClassId} {dI : Nat → Nat → Nat} {cy : Nat → ClassId} {sz : Nat} {N : Nat} (o0 : Nat) (a0 : Nat → Nat) (s0 : zSt) (a1 : Nat → Nat) (s1 : zSt) (v1 : Int32) (v2 : Int32) {y : Int32 × zSt} (hf : CH_evening N s0 s1 v1 v2 = some y) : Met l yX10_evening (.code yX10_evening cX10_evening 3 (some .int) :: zt) rm_CH_evening (va_Pc [.ref o0, .int v1, .int v2] (zPre (dC, dI) cy (wd_CH_evening cy o0 a0 (zI s0) (zL s0) a1 (zI s1) (zL s1) (zA s1 1) (zA s1 2) (zA s1 3) (zA s1 4) (zA s1 5) (zA s1 6) (zA s1 7)) sz)) (zQi y.1 (dC, dI) cy (wd_CH_evening cy o0 a0 (zI s0) (zL s0) a1 (zI y.2) (zL y.2) (zA y.2 1) (zA y.2 2) (zA y.2 3) (zA y.2 4) (zA y.2 5) (zA y.2 6) (zA y.2 7)) (va_A (wd_CH_evening cy o0 a0 (zI s0) (zL s0) a1 (zI s1) (zL s1) (zA s1 1) (zA s1 2) (zA s1 3) (zA s1 4) (zA s1 5) (zA s1 6) (zA s1 7)) sz)) 0 0 (va_A (wd_CH_evening cy o0 a0 (zI s0) (zL s0) a1 (zI s1) (zL s1) (zA s1 1) (zA s1 2) (zA s1 3) (zA s1 4) (zA s1 5) (zA s1 6) (zA s1 7)) sz) :=
  zentW (Qw := fun A => (zQi y.1 (dC, dI) cy (wd_CH_evening cy o0 a0 (zI s0) (zL s0) a1 (zI y.2) (zL y.2) (zA y.2 1) (zA y.2 2) (zA y.2 3) (zA y.2 4) (zA y.2 5) (zA y.2 6) (zA y.2 7)) A)) (by decide +kernel) (Nat.le_of_ble_eq_true rfl) (fun p e s m below meth c A C0 hA hP hD hS ls hl => k_CH_evening_b0 C0 s0 s1 v1 v2 hA hP hD hS hf ls hl)
def wd_CH_note (cy : Nat → ClassId) (o0 : Nat) (a0 : Nat → Nat) (g0 : Nat → Int32) (h0 : Nat → Int64) (a1 : Nat → Nat) (g1 : Nat → Int32) (h1 : Nat → Int64) (x1_5 : Nat → Int32) (x1_6 : Nat → Int32) (x1_14 : Nat → Int32) (a2 : Nat → Nat) (g2 : Nat → Int32) (h2 : Nat → Int64) (x2_5 : Nat → Int32) (a3 : Nat → Nat) (g3 : Nat → Int32) (h3 : Nat → Int64) (x3_1 : Nat → Int32) (x3_2 : Nat → Int32) (x3_3 : Nat → Int32) (x3_4 : Nat → Int32) (x3_5 : Nat → Int32) (x3_6 : Nat → Int32) (x3_7 : Nat → Int32) : va_W := [(o0, .inr (10, fs_CH a0 g0 h0)), ((a0 3), .inr (9, fs_Valley a1 g1 h1)), (a1 5, .inl (cy 0, 11, .inl x1_5)), (a1 6, .inl (cy 0, 11, .inl x1_6)), (a1 14, .inl (cy 0, 4, .inl x1_14)), ((a0 5), .inr (3, fs_Earnest a2 g2 h2)), (a2 5, .inl (cy 0, 11, .inl x2_5)), ((a0 8), .inr (4, fs_Entries a3 g3 h3)), (a3 1, .inl (cy 0, 40, .inl x3_1)), (a3 2, .inl (cy 0, 40, .inl x3_2)), (a3 3, .inl (cy 0, 40, .inl x3_3)), (a3 4, .inl (cy 0, 40, .inl x3_4)), (a3 5, .inl (cy 0, 40, .inl x3_5)), (a3 6, .inl (cy 0, 40, .inl x3_6)), (a3 7, .inl (cy 0, 40, .inl x3_7))]
def rm_CH_note : Room := { frames := 5, cells := 0, slots := 0, locals := 133 }
theorem rm_ok_CH_note_CH_hear : rm_CH_hear.cells = 0 ∧ rm_CH_hear.slots = 0 ∧ rm_CH_hear.frames + 1 ≤ rm_CH_note.frames ∧ 8 + (3 + 11) + rm_CH_hear.locals ≤ rm_CH_note.locals := by decide
theorem rm_ok_CH_note_CH_sound : rm_CH_sound.cells = 0 ∧ rm_CH_sound.slots = 0 ∧ rm_CH_sound.frames + 1 ≤ rm_CH_note.frames ∧ 8 + (6 + 11) + rm_CH_sound.locals ≤ rm_CH_note.locals := by decide
theorem rm_ok_CH_note_CH_within : rm_CH_within.cells = 0 ∧ rm_CH_within.slots = 0 ∧ rm_CH_within.frames + 1 ≤ rm_CH_note.frames ∧ 8 + (3 + 11) + rm_CH_within.locals ≤ rm_CH_note.locals := by decide
theorem rm_ok_CH_note_Math_max : rm_Math_max.cells = 0 ∧ rm_Math_max.slots = 0 ∧ rm_Math_max.frames + 1 ≤ rm_CH_note.frames ∧ 8 + (2 + 11) + rm_Math_max.locals ≤ rm_CH_note.locals := by decide
set_option maxHeartbeats 4000000 in
set_option maxRecDepth 100000 in
theorem k_CH_note_b0 {p : Program} {l : Launch} {e : Env} {s : State} {m : MethodId} {args : Array Value} {below : List Frame} {meth : Method} {c : Code} {dC : Nat → ClassId} {dI : Nat → Nat → Nat} {cy : Nat → ClassId} {A : Nat → Prop} {o0 : Nat} {a0 : Nat → Nat} {a1 : Nat → Nat} {a2 : Nat → Nat} {a3 : Nat → Nat} {N : Nat} {y : Int32 × zSt} (C0 : zCx p s m args meth c cX10_note 6 (some .int) RX10 (dC, dI) cy) (s0 : zSt) (s1 : zSt) (s2 : zSt) (s3 : zSt) (v1 : Int32) (v2 : Int32) (v3 : Int32) (v4 : Int32) (hA : ∀ q, s.heap.size ≤ q → A q) {H : Heap} {locs : List Loc} (hP : va_P (dC, dI) vwCl (wd_CH_note cy o0 a0 (zI s0) (zL s0) a1 (zI s1) (zL s1) (zA s1 5) (zA s1 6) (zA s1 14) a2 (zI s2) (zL s2) (zA s2 5) a3 (zI s3) (zL s3) (zA s3 1) (zA s3 2) (zA s3 3) (zA s3 4) (zA s3 5) (zA s3 6) (zA s3 7)) H) (hD : va_D A (wd_CH_note cy o0 a0 (zI s0) (zL s0) a1 (zI s1) (zL s1) (zA s1 5) (zA s1 6) (zA s1 14) a2 (zI s2) (zL s2) (zA s2 5) a3 (zI s3) (zL s3) (zA s3 1) (zA s3 2) (zA s3 3) (zA s3 4) (zA s3 5) (zA s3 6) (zA s3 7))) (hS : va_S A s.heap H locs) (hf : CH_note_b0 N s0 s1 s2 s3 v1 v2 v3 v4 = some y) (ls : Array Slot) (hl : lv_has ls 6 [(0, .ref o0), (1, .int v1), (2, .int v2), (3, .int v3), (4, .int v4)]) : W p l e rm_CH_note s m args below meth c H locs 0 0 (MQ below (zQi y.1 (dC, dI) cy (wd_CH_note cy o0 a0 (zI s0) (zL s0) a1 (zI s1) (zL s1) (zA s1 5) (zA s1 6) (zA s1 14) a2 (zI s2) (zL s2) (zA s2 5) a3 (zI y.2) (zL y.2) (zA y.2 1) (zA y.2 2) (zA y.2 3) (zA y.2 4) (zA y.2 5) (zA y.2 6) (zA y.2 7)) A) args s 0 0 A) (F0 m 0 ls []) := by
  obtain ⟨hx, hb, hr, hml, hown, hT, hk, hK⟩ := id C0
  refine lv_aload_n hx hb dX10_note_0 rfl (lv_at hl 0 rfl) ?_
  refine lv_iload_n hx hb dX10_note_1 rfl (lv_at hl 2 rfl) ?_
  refine lv_iload_n hx hb dX10_note_2 rfl (lv_at hl 3 rfl) ?_
  obtain ⟨z1, hc2, hf⟩ := zbd_some hf
  refine zri (zV (As := [.int v2, .int v3]) hx hb hml hown hT hl.1 (c_CH_hear o0 a0 s0 a1 s1 a2 s2 v2 v3 hc2) zY_CH_hear tb_746 (zpR hK hP [0, 1, 2, 3, 4, 5, 6] rfl 0 10 rfl rfl rfl) rm_ok_CH_note_CH_hear rfl rfl (Nat.le_of_ble_eq_true rfl) dX10_note_3 ⟨Nat.zero_le _, Nat.zero_le _⟩) ?_
  refine lv_istore (lv' := [(5, .int z1), (0, .ref o0), (1, .int v1), (2, .int v2), (3, .int v3), (4, .int v4)]) hx hb dX10_note_6 hl (by decide) rfl (fun ls hl => ?_)
  refine lv_iload hx hb dX10_note_8 (lv_at hl 0 rfl) ?_
  refine lv_iconst (v := (-1)) hx hb dX10_note_10 (by decide) ?_
  refine lv_icmp_eq (tgt := 25) hx hb dX10_note_11 (by decide) (fun hb_3 => ?_) (fun hb_3 => ?_)
  · have hf := zif_t hb_3 hf
    refine lv_iconst (v := (-1)) hx hb dX10_note_25 (by decide) ?_
    cases hf
    exact zewi hx hb hr hk hK hP hD hS dX10_note_26
  · have hf := zif_f hb_3 hf
    refine lv_iload hx hb dX10_note_14 (lv_at hl 5 rfl) ?_
    refine lv_iconst (v := 0) hx hb dX10_note_16 (by decide) ?_
    refine lv_bipush (v := 99) hx hb dX10_note_17 (by decide) ?_
    obtain ⟨z4, hc5, hf⟩ := zbd_some hf
    refine zri (zS (As := [.int v4, .int 0, .int 99]) hx hb hml hown hT hl.1 (c_CH_within v4 0 99 hc5) zY_CH_within tb_495 (zpS hK hP [] rfl) rm_ok_CH_note_CH_within rfl rfl (Nat.le_of_ble_eq_true rfl) dX10_note_19 ⟨Nat.zero_le _, Nat.zero_le _⟩) ?_
    refine lv_if_ne (tgt := 27) hx hb dX10_note_22 (by decide) (fun hb_6 => ?_) (fun hb_6 => ?_)
    · have hf := zif_f hb_6 hf
      refine lv_aload_n hx hb dX10_note_27 rfl (lv_at hl 1 rfl) ?_
      refine lv_iload_n hx hb dX10_note_28 rfl (lv_at hl 2 rfl) ?_
      refine lv_iload_n hx hb dX10_note_29 rfl (lv_at hl 3 rfl) ?_
      refine lv_iload_n hx hb dX10_note_30 rfl (lv_at hl 4 rfl) ?_
      refine lv_iconst (v := 0) hx hb dX10_note_31 (by decide) ?_
      refine lv_iload hx hb dX10_note_32 (lv_at hl 0 rfl) ?_
      refine lv_iload hx hb dX10_note_34 (lv_at hl 5 rfl) ?_
      refine lv_isub hx hb dX10_note_36 ?_
      obtain ⟨z7, hc8, hf⟩ := zbd_some hf
      refine zri (zS (As := [.int 0, .int (z1 - v4)]) hx hb hml hown hT hl.1 (c_Math_max 0 (z1 - v4) hc8) zY_Math_max tb_747 (zpS hK hP [] rfl) rm_ok_CH_note_Math_max rfl rfl (Nat.le_of_ble_eq_true rfl) dX10_note_37 ⟨Nat.zero_le _, Nat.zero_le _⟩) ?_
      refine lv_iload hx hb dX10_note_40 (lv_at hl 0 rfl) ?_
      refine lv_iload hx hb dX10_note_42 (lv_at hl 5 rfl) ?_
      refine lv_iadd hx hb dX10_note_44 ?_
      obtain ⟨z9, hc10, hf⟩ := zbd_some hf
      refine zwi (wr := [(a1 5, .inl (cy 0, 11, .inl (zA s1 5))), (a1 6, .inl (cy 0, 11, .inl (zA s1 6))), (a1 14, .inl (cy 0, 4, .inl (zA s1 14))), ((a0 5), .inr (3, fs_Earnest a2 (zI s2) (zL s2))), (a2 5, .inl (cy 0, 11, .inl (zA s2 5)))]) (ws' := (wd_CH_note cy o0 a0 (zI s0) (zL s0) a1 (zI s1) (zL s1) (zA s1 5) (zA s1 6) (zA s1 14) a2 (zI s2) (zL s2) (zA s2 5) a3 (zI z9.2) (zL z9.2) (zA z9.2 1) (zA z9.2 2) (zA z9.2 3) (zA z9.2 4) (zA z9.2 5) (zA z9.2 6) (zA z9.2 7))) (zV (As := [.int v1, .int v2, .int v3, .int z7, .int (z1 + v4)]) hx hb hml hown hT hl.1 (c_CH_sound o0 a0 s0 a1 s1 a3 s3 v1 v2 v3 z7 (z1 + v4) hc10) zY_CH_sound tb_748 (zpRw hK hP hD [0, 1, 7, 8, 9, 10, 11, 12, 13, 14] (by decide) rfl 0 10 rfl rfl rfl rfl) rm_ok_CH_note_CH_sound rfl rfl (Nat.le_of_ble_eq_true rfl) dX10_note_45 ⟨Nat.zero_le _, Nat.zero_le _⟩) hP hD hS hA [0, 1, 7, 8, 9, 10, 11, 12, 13, 14] [2, 3, 4, 5, 6] [5, 6, 0, 1, 2, 3, 4, 7, 8, 9, 10, 11, 12, 13, 14] rfl rfl (by decide) (by decide) (by decide) rfl rfl (fun H locs hP hD hS => ?_)
      cases hf
      exact zewi hx hb hr hk hK hP hD hS dX10_note_48
    · have hf := zif_t hb_6 hf
      refine lv_iconst (v := (-1)) hx hb dX10_note_25 (by decide) ?_
      cases hf
      exact zewi hx hb hr hk hK hP hD hS dX10_note_26
set_option maxHeartbeats 4000000 in
set_option maxRecDepth 100000 in
theorem c_CH_note {l : Launch} {dC : Nat → ClassId} {dI : Nat → Nat → Nat} {cy : Nat → ClassId} {sz : Nat} {N : Nat} (o0 : Nat) (a0 : Nat → Nat) (s0 : zSt) (a1 : Nat → Nat) (s1 : zSt) (a2 : Nat → Nat) (s2 : zSt) (a3 : Nat → Nat) (s3 : zSt) (v1 : Int32) (v2 : Int32) (v3 : Int32) (v4 : Int32) {y : Int32 × zSt} (hf : CH_note N s0 s1 s2 s3 v1 v2 v3 v4 = some y) : Met l yX10_note (.code yX10_note cX10_note 6 (some .int) :: zt) rm_CH_note (va_Pc [.ref o0, .int v1, .int v2, .int v3, .int v4] (zPre (dC, dI) cy (wd_CH_note cy o0 a0 (zI s0) (zL s0) a1 (zI s1) (zL s1) (zA s1 5) (zA s1 6) (zA s1 14) a2 (zI s2) (zL s2) (zA s2 5) a3 (zI s3) (zL s3) (zA s3 1) (zA s3 2) (zA s3 3) (zA s3 4) (zA s3 5) (zA s3 6) (zA s3 7)) sz)) (zQi y.1 (dC, dI) cy (wd_CH_note cy o0 a0 (zI s0) (zL s0) a1 (zI s1) (zL s1) (zA s1 5) (zA s1 6) (zA s1 14) a2 (zI s2) (zL s2) (zA s2 5) a3 (zI y.2) (zL y.2) (zA y.2 1) (zA y.2 2) (zA y.2 3) (zA y.2 4) (zA y.2 5) (zA y.2 6) (zA y.2 7)) (va_A (wd_CH_note cy o0 a0 (zI s0) (zL s0) a1 (zI s1) (zL s1) (zA s1 5) (zA s1 6) (zA s1 14) a2 (zI s2) (zL s2) (zA s2 5) a3 (zI s3) (zL s3) (zA s3 1) (zA s3 2) (zA s3 3) (zA s3 4) (zA s3 5) (zA s3 6) (zA s3 7)) sz)) 0 0 (va_A (wd_CH_note cy o0 a0 (zI s0) (zL s0) a1 (zI s1) (zL s1) (zA s1 5) (zA s1 6) (zA s1 14) a2 (zI s2) (zL s2) (zA s2 5) a3 (zI s3) (zL s3) (zA s3 1) (zA s3 2) (zA s3 3) (zA s3 4) (zA s3 5) (zA s3 6) (zA s3 7)) sz) :=
  zentW (Qw := fun A => (zQi y.1 (dC, dI) cy (wd_CH_note cy o0 a0 (zI s0) (zL s0) a1 (zI s1) (zL s1) (zA s1 5) (zA s1 6) (zA s1 14) a2 (zI s2) (zL s2) (zA s2 5) a3 (zI y.2) (zL y.2) (zA y.2 1) (zA y.2 2) (zA y.2 3) (zA y.2 4) (zA y.2 5) (zA y.2 6) (zA y.2 7)) A)) (by decide +kernel) (Nat.le_of_ble_eq_true rfl) (fun p e s m below meth c A C0 hA hP hD hS ls hl => k_CH_note_b0 C0 s0 s1 s2 s3 v1 v2 v3 v4 hA hP hD hS hf ls hl)
def wd_CH_untell (cy : Nat → ClassId) (o0 : Nat) (a0 : Nat → Nat) (g0 : Nat → Int32) (h0 : Nat → Int64) (a1 : Nat → Nat) (g1 : Nat → Int32) (h1 : Nat → Int64) (x1_7 : Nat → Int32) : va_W := [(o0, .inr (10, fs_CH a0 g0 h0)), ((a0 8), .inr (4, fs_Entries a1 g1 h1)), (a1 7, .inl (cy 0, 40, .inl x1_7))]
def rm_CH_untell : Room := { frames := 2, cells := 0, slots := 0, locals := 62 }
theorem rm_ok_CH_untell_CH_within : rm_CH_within.cells = 0 ∧ rm_CH_within.slots = 0 ∧ rm_CH_within.frames + 1 ≤ rm_CH_untell.frames ∧ 8 + (3 + 11) + rm_CH_within.locals ≤ rm_CH_untell.locals := by decide
set_option maxHeartbeats 4000000 in
set_option maxRecDepth 100000 in
theorem k_CH_untell_b0 {p : Program} {l : Launch} {e : Env} {s : State} {m : MethodId} {args : Array Value} {below : List Frame} {meth : Method} {c : Code} {dC : Nat → ClassId} {dI : Nat → Nat → Nat} {cy : Nat → ClassId} {A : Nat → Prop} {o0 : Nat} {a0 : Nat → Nat} {a1 : Nat → Nat} {N : Nat} {y : Int32 × zSt} (C0 : zCx p s m args meth c cX10_untell 2 (some .boolean) RX10 (dC, dI) cy) (s0 : zSt) (s1 : zSt) (v1 : Int32) (hA : ∀ q, s.heap.size ≤ q → A q) {H : Heap} {locs : List Loc} (hP : va_P (dC, dI) vwCl (wd_CH_untell cy o0 a0 (zI s0) (zL s0) a1 (zI s1) (zL s1) (zA s1 7)) H) (hD : va_D A (wd_CH_untell cy o0 a0 (zI s0) (zL s0) a1 (zI s1) (zL s1) (zA s1 7))) (hS : va_S A s.heap H locs) (hf : CH_untell_b0 N s0 s1 v1 = some y) (ls : Array Slot) (hl : lv_has ls 2 [(0, .ref o0), (1, .int v1)]) : W p l e rm_CH_untell s m args below meth c H locs 0 0 (MQ below (zQi y.1 (dC, dI) cy (wd_CH_untell cy o0 a0 (zI s0) (zL s0) a1 (zI y.2) (zL y.2) (zA y.2 7)) A) args s 0 0 A) (F0 m 0 ls []) := by
  obtain ⟨hx, hb, hr, hml, hown, hT, hk, hK⟩ := id C0
  refine lv_iload_n hx hb dX10_untell_0 rfl (lv_at hl 1 rfl) ?_
  refine lv_iconst (v := 0) hx hb dX10_untell_1 (by decide) ?_
  refine lv_aload_n hx hb dX10_untell_2 rfl (lv_at hl 0 rfl) ?_
  refine zget (v := .ref (a0 8)) hx hb hown hT hK hP inX10 rfl smX10 0 rfl 8 (by decide) tb_439 rfl dX10_untell_3 ?_
  refine zget (v := .int (zI s1 0)) hx hb hown hT hK hP inX4 rfl smX4 1 rfl 0 (by decide) tb_208 rfl dX10_untell_6 ?_
  refine lv_iconst (v := 1) hx hb dX10_untell_9 (by decide) ?_
  refine lv_isub hx hb dX10_untell_10 ?_
  obtain ⟨z1, hc2, hf⟩ := zbd_some hf
  refine zri (zS (As := [.int v1, .int 0, .int ((zI s1 0) - 1)]) hx hb hml hown hT hl.1 (c_CH_within v1 0 ((zI s1 0) - 1) hc2) zY_CH_within tb_495 (zpS hK hP [] rfl) rm_ok_CH_untell_CH_within rfl rfl (Nat.le_of_ble_eq_true rfl) dX10_untell_11 ⟨Nat.zero_le _, Nat.zero_le _⟩) ?_
  refine lv_if_eq (tgt := 30) hx hb dX10_untell_14 (by decide) (fun hb_3 => ?_) (fun hb_3 => ?_)
  · have hf := zif_t hb_3 hf
    refine lv_iconst (v := 0) hx hb dX10_untell_30 (by decide) ?_
    cases hf
    exact zewz hx hb hr hk (Or.inl rfl) hK hP hD hS dX10_untell_31
  · have hf := zif_f hb_3 hf
    refine lv_aload_n hx hb dX10_untell_17 rfl (lv_at hl 0 rfl) ?_
    refine zget (v := .ref (a0 8)) hx hb hown hT hK hP inX10 rfl smX10 0 rfl 8 (by decide) tb_439 rfl dX10_untell_18 ?_
    refine zget (v := .ref (a1 7)) hx hb hown hT hK hP inX4 rfl smX4 1 rfl 7 (by decide) tb_228 rfl dX10_untell_21 ?_
    refine lv_iload_n hx hb dX10_untell_24 rfl (lv_at hl 1 rfl) ?_
    obtain ⟨hi4, hf⟩ := zck_some hf
    refine va_iald hx hb hK.1 hP 2 0 rfl rfl hi4 dX10_untell_25 ?_
    refine lv_iconst (v := (-1)) hx hb dX10_untell_26 (by decide) ?_
    refine lv_icmp_eq (tgt := 32) hx hb dX10_untell_27 (by decide) (fun hb_5 => ?_) (fun hb_5 => ?_)
    · have hf := zif_t hb_5 hf
      refine lv_aload_n hx hb dX10_untell_32 rfl (lv_at hl 0 rfl) ?_
      refine zget (v := .ref (a0 8)) hx hb hown hT hK hP inX10 rfl smX10 0 rfl 8 (by decide) tb_439 rfl dX10_untell_33 ?_
      refine zget (v := .ref (a1 7)) hx hb hown hT hK hP inX4 rfl smX4 1 rfl 7 (by decide) tb_228 rfl dX10_untell_36 ?_
      refine lv_iload_n hx hb dX10_untell_39 rfl (lv_at hl 1 rfl) ?_
      refine lv_aload_n hx hb dX10_untell_40 rfl (lv_at hl 0 rfl) ?_
      refine zget (v := .int (zI s0 9)) hx hb hown hT hK hP inX10 rfl smX10 0 rfl 9 (by decide) tb_440 rfl dX10_untell_41 ?_
      obtain ⟨hi6, hf⟩ := zck_some hf
      refine zast (ws' := (wd_CH_untell cy o0 a0 (zI s0) (zL s0) a1 (zI s1) (zL s1) (upd (zA s1 7) (Int32.toNatClampNeg v1) (zI s0 9)))) hx hb hK hP hD hS 2 0 rfl rfl hi6 rfl dX10_untell_44 (fun H locs hP hD hS => ?_)
      refine lv_iconst (v := 1) hx hb dX10_untell_45 (by decide) ?_
      cases hf
      exact zewz hx hb hr hk (Or.inr rfl) hK hP hD hS dX10_untell_46
    · have hf := zif_f hb_5 hf
      refine lv_iconst (v := 0) hx hb dX10_untell_30 (by decide) ?_
      cases hf
      exact zewz hx hb hr hk (Or.inl rfl) hK hP hD hS dX10_untell_31
set_option maxHeartbeats 4000000 in
set_option maxRecDepth 100000 in
theorem c_CH_untell {l : Launch} {dC : Nat → ClassId} {dI : Nat → Nat → Nat} {cy : Nat → ClassId} {sz : Nat} {N : Nat} (o0 : Nat) (a0 : Nat → Nat) (s0 : zSt) (a1 : Nat → Nat) (s1 : zSt) (v1 : Int32) {y : Int32 × zSt} (hf : CH_untell N s0 s1 v1 = some y) : Met l yX10_untell (.code yX10_untell cX10_untell 2 (some .boolean) :: zt) rm_CH_untell (va_Pc [.ref o0, .int v1] (zPre (dC, dI) cy (wd_CH_untell cy o0 a0 (zI s0) (zL s0) a1 (zI s1) (zL s1) (zA s1 7)) sz)) (zQi y.1 (dC, dI) cy (wd_CH_untell cy o0 a0 (zI s0) (zL s0) a1 (zI y.2) (zL y.2) (zA y.2 7)) (va_A (wd_CH_untell cy o0 a0 (zI s0) (zL s0) a1 (zI s1) (zL s1) (zA s1 7)) sz)) 0 0 (va_A (wd_CH_untell cy o0 a0 (zI s0) (zL s0) a1 (zI s1) (zL s1) (zA s1 7)) sz) :=
  zentW (Qw := fun A => (zQi y.1 (dC, dI) cy (wd_CH_untell cy o0 a0 (zI s0) (zL s0) a1 (zI y.2) (zL y.2) (zA y.2 7)) A)) (by decide +kernel) (Nat.le_of_ble_eq_true rfl) (fun p e s m below meth c A C0 hA hP hD hS ls hl => k_CH_untell_b0 C0 s0 s1 v1 hA hP hD hS hf ls hl)
def wd_CH_later (cy : Nat → ClassId) (o0 : Nat) (a0 : Nat → Nat) (g0 : Nat → Int32) (h0 : Nat → Int64) : va_W := [(o0, .inr (10, fs_CH a0 g0 h0))]
def rm_CH_later : Room := { frames := 2, cells := 0, slots := 0, locals := 62 }
theorem rm_ok_CH_later_CH_within : rm_CH_within.cells = 0 ∧ rm_CH_within.slots = 0 ∧ rm_CH_within.frames + 1 ≤ rm_CH_later.frames ∧ 8 + (3 + 11) + rm_CH_within.locals ≤ rm_CH_later.locals := by decide
set_option maxHeartbeats 4000000 in
set_option maxRecDepth 100000 in
theorem k_CH_later_b0 {p : Program} {l : Launch} {e : Env} {s : State} {m : MethodId} {args : Array Value} {below : List Frame} {meth : Method} {c : Code} {dC : Nat → ClassId} {dI : Nat → Nat → Nat} {cy : Nat → ClassId} {A : Nat → Prop} {o0 : Nat} {a0 : Nat → Nat} {N : Nat} {y : Int32 × zSt} (C0 : zCx p s m args meth c cX10_later 2 (some .int) RX10 (dC, dI) cy) (s0 : zSt) (v1 : Int32) (hA : ∀ q, s.heap.size ≤ q → A q) {H : Heap} {locs : List Loc} (hP : va_P (dC, dI) vwCl (wd_CH_later cy o0 a0 (zI s0) (zL s0)) H) (hD : va_D A (wd_CH_later cy o0 a0 (zI s0) (zL s0))) (hS : va_S A s.heap H locs) (hf : CH_later_b0 N s0 v1 = some y) (ls : Array Slot) (hl : lv_has ls 2 [(0, .ref o0), (1, .int v1)]) : W p l e rm_CH_later s m args below meth c H locs 0 0 (MQ below (zQi y.1 (dC, dI) cy (wd_CH_later cy o0 a0 (zI y.2) (zL y.2)) A) args s 0 0 A) (F0 m 0 ls []) := by
  obtain ⟨hx, hb, hr, hml, hown, hT, hk, hK⟩ := id C0
  refine lv_iload_n hx hb dX10_later_0 rfl (lv_at hl 1 rfl) ?_
  refine lv_iconst (v := 0) hx hb dX10_later_1 (by decide) ?_
  refine lv_sipush (v := 1000) hx hb dX10_later_2 (by decide) ?_
  obtain ⟨z1, hc2, hf⟩ := zbd_some hf
  refine zri (zS (As := [.int v1, .int 0, .int 1000]) hx hb hml hown hT hl.1 (c_CH_within v1 0 1000 hc2) zY_CH_within tb_495 (zpS hK hP [] rfl) rm_ok_CH_later_CH_within rfl rfl (Nat.le_of_ble_eq_true rfl) dX10_later_5 ⟨Nat.zero_le _, Nat.zero_le _⟩) ?_
  refine lv_if_eq (tgt := 22) hx hb dX10_later_8 (by decide) (fun hb_3 => ?_) (fun hb_3 => ?_)
  · have hf := zif_t hb_3 hf
    refine lv_iconst (v := (-1)) hx hb dX10_later_22 (by decide) ?_
    cases hf
    exact zewi hx hb hr hk hK hP hD hS dX10_later_23
  · have hf := zif_f hb_3 hf
    refine lv_aload_n hx hb dX10_later_11 rfl (lv_at hl 0 rfl) ?_
    refine zget (v := .int (zI s0 9)) hx hb hown hT hK hP inX10 rfl smX10 0 rfl 9 (by decide) tb_440 rfl dX10_later_12 ?_
    refine lv_iload_n hx hb dX10_later_15 rfl (lv_at hl 1 rfl) ?_
    refine lv_iadd hx hb dX10_later_16 ?_
    refine lv_ldc (v := 100000) hx hb hown (hT _ tb_757) dX10_later_17 ?_
    refine lv_icmp_le (tgt := 24) hx hb dX10_later_19 (by decide) (fun hb_4 => ?_) (fun hb_4 => ?_)
    · have hf := zif_t hb_4 hf
      refine lv_aload_n hx hb dX10_later_24 rfl (lv_at hl 0 rfl) ?_
      refine lv_dup hx hb dX10_later_25 rfl ?_
      refine zget (v := .int (zI s0 9)) hx hb hown hT hK hP inX10 rfl smX10 0 rfl 9 (by decide) tb_440 rfl dX10_later_26 ?_
      refine lv_iload_n hx hb dX10_later_29 rfl (lv_at hl 1 rfl) ?_
      refine lv_iadd hx hb dX10_later_30 ?_
      refine zput (fs' := fs_CH a0 (upd (zI s0) 9 ((zI s0 9) + v1)) (zL s0)) (ws' := (wd_CH_later cy o0 a0 (upd (zI s0) 9 ((zI s0 9) + v1)) (zL s0))) hx hb hown hT hK hP hD hS inX10 rfl smX10 tyX10_ok nmX10 0 rfl 9 (by decide) tb_440 rfl rfl rfl (Nat.le_of_ble_eq_true rfl) rfl rfl dX10_later_31 (fun H locs hP hD hS => ?_)
      refine lv_aload_n hx hb dX10_later_34 rfl (lv_at hl 0 rfl) ?_
      refine zget (v := .int ((zI s0 9) + v1)) hx hb hown hT hK hP inX10 rfl smX10 0 rfl 9 (by decide) tb_440 rfl dX10_later_35 ?_
      cases hf
      exact zewi hx hb hr hk hK hP hD hS dX10_later_38
    · have hf := zif_f hb_4 hf
      refine lv_iconst (v := (-1)) hx hb dX10_later_22 (by decide) ?_
      cases hf
      exact zewi hx hb hr hk hK hP hD hS dX10_later_23
set_option maxHeartbeats 4000000 in
set_option maxRecDepth 100000 in
theorem c_CH_later {l : Launch} {dC : Nat → ClassId} {dI : Nat → Nat → Nat} {cy : Nat → ClassId} {sz : Nat} {N : Nat} (o0 : Nat) (a0 : Nat → Nat) (s0 : zSt) (v1 : Int32) {y : Int32 × zSt} (hf : CH_later N s0 v1 = some y) : Met l yX10_later (.code yX10_later cX10_later 2 (some .int) :: zt) rm_CH_later (va_Pc [.ref o0, .int v1] (zPre (dC, dI) cy (wd_CH_later cy o0 a0 (zI s0) (zL s0)) sz)) (zQi y.1 (dC, dI) cy (wd_CH_later cy o0 a0 (zI y.2) (zL y.2)) (va_A (wd_CH_later cy o0 a0 (zI s0) (zL s0)) sz)) 0 0 (va_A (wd_CH_later cy o0 a0 (zI s0) (zL s0)) sz) :=
  zentW (Qw := fun A => (zQi y.1 (dC, dI) cy (wd_CH_later cy o0 a0 (zI y.2) (zL y.2)) A)) (by decide +kernel) (Nat.le_of_ble_eq_true rfl) (fun p e s m below meth c A C0 hA hP hD hS ls hl => k_CH_later_b0 C0 s0 v1 hA hP hD hS hf ls hl)
def wd_CH_sets (cy : Nat → ClassId) (o0 : Nat) (a0 : Nat → Nat) (g0 : Nat → Int32) (h0 : Nat → Int64) (a1 : Nat → Nat) (g1 : Nat → Int32) (h1 : Nat → Int64) (x1_1 : Nat → Int32) (x1_3 : Nat → Int32) (x1_4 : Nat → Int32) (x1_5 : Nat → Int32) (a2 : Nat → Nat) (g2 : Nat → Int32) (h2 : Nat → Int64) (x2_1 : Nat → Int32) (x2_2 : Nat → Int32) (x2_3 : Nat → Int32) (x2_4 : Nat → Int32) (x2_5 : Nat → Int32) (x2_6 : Nat → Int32) (x2_7 : Nat → Int32) (a3 : Nat → Nat) (g3 : Nat → Int32) (h3 : Nat → Int64) (x3_8 : Nat → Int32) (x3_9 : Nat → Int32) (x3_10 : Nat → Int32) (x3_11 : Nat → Int32) (x3_12 : Nat → Int32) (x3_13 : Nat → Int32) (a4 : Nat → Nat) (g4 : Nat → Int32) (h4 : Nat → Int64) (x4_5 : Nat → Int32) (x4_6 : Nat → Int32) (x4_14 : Nat → Int32) : va_W := [(o0, .inr (10, fs_CH a0 g0 h0)), ((a0 12), .inr (0, fs_Bounds a1 g1 h1)), (a1 1, .inl (cy 0, 4, .inl x1_1)), (a1 3, .inl (cy 0, 4, .inl x1_3)), (a1 4, .inl (cy 0, 48, .inl x1_4)), (a1 5, .inl (cy 0, 48, .inl x1_5)), ((a0 8), .inr (4, fs_Entries a2 g2 h2)), (a2 1, .inl (cy 0, 40, .inl x2_1)), (a2 2, .inl (cy 0, 40, .inl x2_2)), (a2 3, .inl (cy 0, 40, .inl x2_3)), (a2 4, .inl (cy 0, 40, .inl x2_4)), (a2 5, .inl (cy 0, 40, .inl x2_5)), (a2 6, .inl (cy 0, 40, .inl x2_6)), (a2 7, .inl (cy 0, 40, .inl x2_7)), ((a0 13), .inr (7, fs_Sets a3 g3 h3)), (a3 8, .inl (cy 0, 11, .inl x3_8)), (a3 9, .inl (cy 0, 11, .inl x3_9)), (a3 10, .inl (cy 0, 44, .inl x3_10)), (a3 11, .inl (cy 0, 48, .inl x3_11)), (a3 12, .inl (cy 0, 48, .inl x3_12)), (a3 13, .inl (cy 0, 64, .inl x3_13)), ((a0 3), .inr (9, fs_Valley a4 g4 h4)), (a4 5, .inl (cy 0, 11, .inl x4_5)), (a4 6, .inl (cy 0, 11, .inl x4_6)), (a4 14, .inl (cy 0, 4, .inl x4_14))]
def rm_CH_sets : Room := { frames := 19, cells := 0, slots := 0, locals := 456 }
theorem rm_ok_CH_sets_Bounds_gather : rm_Bounds_gather.cells = 0 ∧ rm_Bounds_gather.slots = 0 ∧ rm_Bounds_gather.frames + 1 ≤ rm_CH_sets.frames ∧ 8 + (5 + 11) + rm_Bounds_gather.locals ≤ rm_CH_sets.locals := by decide
theorem rm_ok_CH_sets_CH_isQuarter : rm_CH_isQuarter.cells = 0 ∧ rm_CH_isQuarter.slots = 0 ∧ rm_CH_isQuarter.frames + 1 ≤ rm_CH_sets.frames ∧ 8 + (1 + 11) + rm_CH_isQuarter.locals ≤ rm_CH_sets.locals := by decide
theorem rm_ok_CH_sets_CH_isWind : rm_CH_isWind.cells = 0 ∧ rm_CH_isWind.slots = 0 ∧ rm_CH_isWind.frames + 1 ≤ rm_CH_sets.frames ∧ 8 + (1 + 11) + rm_CH_isWind.locals ≤ rm_CH_sets.locals := by decide
theorem rm_ok_CH_sets_CH_within : rm_CH_within.cells = 0 ∧ rm_CH_within.slots = 0 ∧ rm_CH_within.frames + 1 ≤ rm_CH_sets.frames ∧ 8 + (3 + 11) + rm_CH_within.locals ≤ rm_CH_sets.locals := by decide
theorem rm_ok_CH_sets_Sets_seek : rm_Sets_seek.cells = 0 ∧ rm_Sets_seek.slots = 0 ∧ rm_Sets_seek.frames + 1 ≤ rm_CH_sets.frames ∧ 8 + (5 + 11) + rm_Sets_seek.locals ≤ rm_CH_sets.locals := by decide
set_option maxHeartbeats 4000000 in
set_option maxRecDepth 100000 in
theorem k_CH_sets_b0 {p : Program} {l : Launch} {e : Env} {s : State} {m : MethodId} {args : Array Value} {below : List Frame} {meth : Method} {c : Code} {dC : Nat → ClassId} {dI : Nat → Nat → Nat} {cy : Nat → ClassId} {A : Nat → Prop} {o0 : Nat} {a0 : Nat → Nat} {a1 : Nat → Nat} {a2 : Nat → Nat} {a3 : Nat → Nat} {a4 : Nat → Nat} {N : Nat} {y : Int32 × zSt × zSt} (C0 : zCx p s m args meth c cX10_sets 5 (some .int) RX10 (dC, dI) cy) (s0 : zSt) (s1 : zSt) (s2 : zSt) (s3 : zSt) (s4 : zSt) (v1 : Int32) (v2 : Int32) (v3 : Int32) (v4 : Int32) (hA : ∀ q, s.heap.size ≤ q → A q) {H : Heap} {locs : List Loc} (hP : va_P (dC, dI) vwCl (wd_CH_sets cy o0 a0 (zI s0) (zL s0) a1 (zI s1) (zL s1) (zA s1 1) (zA s1 3) (zA s1 4) (zA s1 5) a2 (zI s2) (zL s2) (zA s2 1) (zA s2 2) (zA s2 3) (zA s2 4) (zA s2 5) (zA s2 6) (zA s2 7) a3 (zI s3) (zL s3) (zA s3 8) (zA s3 9) (zA s3 10) (zA s3 11) (zA s3 12) (zA s3 13) a4 (zI s4) (zL s4) (zA s4 5) (zA s4 6) (zA s4 14)) H) (hD : va_D A (wd_CH_sets cy o0 a0 (zI s0) (zL s0) a1 (zI s1) (zL s1) (zA s1 1) (zA s1 3) (zA s1 4) (zA s1 5) a2 (zI s2) (zL s2) (zA s2 1) (zA s2 2) (zA s2 3) (zA s2 4) (zA s2 5) (zA s2 6) (zA s2 7) a3 (zI s3) (zL s3) (zA s3 8) (zA s3 9) (zA s3 10) (zA s3 11) (zA s3 12) (zA s3 13) a4 (zI s4) (zL s4) (zA s4 5) (zA s4 6) (zA s4 14))) (hS : va_S A s.heap H locs) (hf : CH_sets_b0 N s0 s1 s2 s3 s4 v1 v2 v3 v4 = some y) (ls : Array Slot) (hl : lv_has ls 5 [(0, .ref o0), (1, .int v1), (2, .int v2), (3, .int v3), (4, .int v4)]) : W p l e rm_CH_sets s m args below meth c H locs 0 0 (MQ below (zQi y.1 (dC, dI) cy (wd_CH_sets cy o0 a0 (zI s0) (zL s0) a1 (zI y.2.1) (zL y.2.1) (zA y.2.1 1) (zA y.2.1 3) (zA y.2.1 4) (zA y.2.1 5) a2 (zI s2) (zL s2) (zA s2 1) (zA s2 2) (zA s2 3) (zA s2 4) (zA s2 5) (zA s2 6) (zA s2 7) a3 (zI y.2.2) (zL y.2.2) (zA y.2.2 8) (zA y.2.2 9) (zA y.2.2 10) (zA y.2.2 11) (zA y.2.2 12) (zA y.2.2 13) a4 (zI s4) (zL s4) (zA s4 5) (zA s4 6) (zA s4 14)) A) args s 0 0 A) (F0 m 0 ls []) := by
  obtain ⟨hx, hb, hr, hml, hown, hT, hk, hK⟩ := id C0
  refine lv_iload_n hx hb dX10_sets_0 rfl (lv_at hl 1 rfl) ?_
  obtain ⟨z1, hc2, hf⟩ := zbd_some hf
  refine zri (zS (As := [.int v1]) hx hb hml hown hT hl.1 (c_CH_isQuarter v1 hc2) zY_CH_isQuarter tb_731 (zpS hK hP [] rfl) rm_ok_CH_sets_CH_isQuarter rfl rfl (Nat.le_of_ble_eq_true rfl) dX10_sets_1 ⟨Nat.zero_le _, Nat.zero_le _⟩) ?_
  refine lv_if_eq (tgt := 23) hx hb dX10_sets_4 (by decide) (fun hb_3 => ?_) (fun hb_3 => ?_)
  · have hf := zif_t hb_3 hf
    refine lv_bipush (v := (-2)) hx hb dX10_sets_23 (by decide) ?_
    cases hf
    exact zewi hx hb hr hk hK hP hD hS dX10_sets_25
  · have hf := zif_f hb_3 hf
    refine lv_iload_n hx hb dX10_sets_7 rfl (lv_at hl 2 rfl) ?_
    obtain ⟨z4, hc5, hf⟩ := zbd_some hf
    refine zri (zS (As := [.int v2]) hx hb hml hown hT hl.1 (c_CH_isWind v2 hc5) zY_CH_isWind tb_716 (zpS hK hP [] rfl) rm_ok_CH_sets_CH_isWind rfl rfl (Nat.le_of_ble_eq_true rfl) dX10_sets_8 ⟨Nat.zero_le _, Nat.zero_le _⟩) ?_
    refine lv_if_eq (tgt := 23) hx hb dX10_sets_11 (by decide) (fun hb_6 => ?_) (fun hb_6 => ?_)
    · have hf := zif_t hb_6 hf
      refine lv_bipush (v := (-2)) hx hb dX10_sets_23 (by decide) ?_
      cases hf
      exact zewi hx hb hr hk hK hP hD hS dX10_sets_25
    · have hf := zif_f hb_6 hf
      refine lv_iload_n hx hb dX10_sets_14 rfl (lv_at hl 3 rfl) ?_
      refine lv_iconst (v := 0) hx hb dX10_sets_15 (by decide) ?_
      refine lv_iconst (v := 5) hx hb dX10_sets_16 (by decide) ?_
      obtain ⟨z7, hc8, hf⟩ := zbd_some hf
      refine zri (zS (As := [.int v3, .int 0, .int 5]) hx hb hml hown hT hl.1 (c_CH_within v3 0 5 hc8) zY_CH_within tb_495 (zpS hK hP [] rfl) rm_ok_CH_sets_CH_within rfl rfl (Nat.le_of_ble_eq_true rfl) dX10_sets_17 ⟨Nat.zero_le _, Nat.zero_le _⟩) ?_
      refine lv_if_ne (tgt := 26) hx hb dX10_sets_20 (by decide) (fun hb_9 => ?_) (fun hb_9 => ?_)
      · have hf := zif_f hb_9 hf
        refine lv_aload_n hx hb dX10_sets_26 rfl (lv_at hl 0 rfl) ?_
        refine zget (v := .ref (a0 12)) hx hb hown hT hK hP inX10 rfl smX10 0 rfl 12 (by decide) tb_443 rfl dX10_sets_27 ?_
        refine lv_aload_n hx hb dX10_sets_30 rfl (lv_at hl 0 rfl) ?_
        refine zget (v := .ref (a0 8)) hx hb hown hT hK hP inX10 rfl smX10 0 rfl 8 (by decide) tb_439 rfl dX10_sets_31 ?_
        refine lv_iload_n hx hb dX10_sets_34 rfl (lv_at hl 1 rfl) ?_
        refine lv_iload hx hb dX10_sets_35 (lv_at hl 4 rfl) ?_
        obtain ⟨z10, hc11, hf⟩ := zbd_some hf
        refine zwv (wr := [(o0, .inr (10, fs_CH a0 (zI s0) (zL s0))), ((a0 13), .inr (7, fs_Sets a3 (zI s3) (zL s3))), (a3 8, .inl (cy 0, 11, .inl (zA s3 8))), (a3 9, .inl (cy 0, 11, .inl (zA s3 9))), (a3 10, .inl (cy 0, 44, .inl (zA s3 10))), (a3 11, .inl (cy 0, 48, .inl (zA s3 11))), (a3 12, .inl (cy 0, 48, .inl (zA s3 12))), (a3 13, .inl (cy 0, 64, .inl (zA s3 13))), ((a0 3), .inr (9, fs_Valley a4 (zI s4) (zL s4))), (a4 5, .inl (cy 0, 11, .inl (zA s4 5))), (a4 6, .inl (cy 0, 11, .inl (zA s4 6))), (a4 14, .inl (cy 0, 4, .inl (zA s4 14)))]) (ws' := (wd_CH_sets cy o0 a0 (zI s0) (zL s0) a1 (zI z10) (zL z10) (zA z10 1) (zA z10 3) (zA z10 4) (zA z10 5) a2 (zI s2) (zL s2) (zA s2 1) (zA s2 2) (zA s2 3) (zA s2 4) (zA s2 5) (zA s2 6) (zA s2 7) a3 (zI s3) (zL s3) (zA s3 8) (zA s3 9) (zA s3 10) (zA s3 11) (zA s3 12) (zA s3 13) a4 (zI s4) (zL s4) (zA s4 5) (zA s4 6) (zA s4 14))) (zV (As := [.ref (a0 8), .int v1, .int v4]) hx hb hml hown hT hl.1 (c_Bounds_gather (a0 12) a1 s1 (a0 8) a2 s2 v1 v4 hc11) zY_Bounds_gather tb_762 (zpRw hK hP hD [1, 2, 3, 4, 5, 6, 7, 8, 9, 10, 11, 12, 13] (by decide) rfl 0 0 rfl rfl rfl rfl) rm_ok_CH_sets_Bounds_gather rfl rfl (Nat.le_of_ble_eq_true rfl) dX10_sets_37 ⟨Nat.zero_le _, Nat.zero_le _⟩) hP hD hS hA [1, 2, 3, 4, 5, 6, 7, 8, 9, 10, 11, 12, 13] [0, 14, 15, 16, 17, 18, 19, 20, 21, 22, 23, 24] [0, 12, 13, 14, 15, 16, 17, 18, 19, 20, 21, 22, 23, 24, 1, 2, 3, 4, 5, 6, 7, 8, 9, 10, 11] rfl rfl (by decide) (by decide) (by decide) rfl rfl (fun H locs hP hD hS => ?_)
        refine lv_aload_n hx hb dX10_sets_40 rfl (lv_at hl 0 rfl) ?_
        refine zget (v := .ref (a0 13)) hx hb hown hT hK hP inX10 rfl smX10 0 rfl 13 (by decide) tb_444 rfl dX10_sets_41 ?_
        refine lv_aload_n hx hb dX10_sets_44 rfl (lv_at hl 0 rfl) ?_
        refine zget (v := .ref (a0 3)) hx hb hown hT hK hP inX10 rfl smX10 0 rfl 3 (by decide) tb_434 rfl dX10_sets_45 ?_
        refine lv_aload_n hx hb dX10_sets_48 rfl (lv_at hl 0 rfl) ?_
        refine zget (v := .ref (a0 12)) hx hb hown hT hK hP inX10 rfl smX10 0 rfl 12 (by decide) tb_443 rfl dX10_sets_49 ?_
        refine lv_iload_n hx hb dX10_sets_52 rfl (lv_at hl 2 rfl) ?_
        obtain ⟨z12, hc13, hf⟩ := zbd_some hf
        refine zwv (wr := [(o0, .inr (10, fs_CH a0 (zI s0) (zL s0))), ((a0 8), .inr (4, fs_Entries a2 (zI s2) (zL s2))), (a2 1, .inl (cy 0, 40, .inl (zA s2 1))), (a2 2, .inl (cy 0, 40, .inl (zA s2 2))), (a2 3, .inl (cy 0, 40, .inl (zA s2 3))), (a2 4, .inl (cy 0, 40, .inl (zA s2 4))), (a2 5, .inl (cy 0, 40, .inl (zA s2 5))), (a2 6, .inl (cy 0, 40, .inl (zA s2 6))), (a2 7, .inl (cy 0, 40, .inl (zA s2 7)))]) (ws' := (wd_CH_sets cy o0 a0 (zI s0) (zL s0) a1 (zI z10) (zL z10) (zA z10 1) (zA z10 3) (zA z10 4) (zA z10 5) a2 (zI s2) (zL s2) (zA s2 1) (zA s2 2) (zA s2 3) (zA s2 4) (zA s2 5) (zA s2 6) (zA s2 7) a3 (zI z12) (zL z12) (zA z12 8) (zA z12 9) (zA z12 10) (zA z12 11) (zA z12 12) (zA z12 13) a4 (zI s4) (zL s4) (zA s4 5) (zA s4 6) (zA s4 14))) (zV (As := [.ref (a0 3), .ref (a0 12), .int v2]) hx hb hml hown hT hl.1 (c_Sets_seek (a0 13) a3 s3 (a0 3) a4 s4 (a0 12) a1 z10 v2 hc13) zY_Sets_seek tb_785 (zpRw hK hP hD [14, 15, 16, 17, 18, 19, 20, 21, 22, 23, 24, 1, 2, 3, 4, 5] (by decide) rfl 0 7 rfl rfl rfl rfl) rm_ok_CH_sets_Sets_seek rfl rfl (Nat.le_of_ble_eq_true rfl) dX10_sets_53 ⟨Nat.zero_le _, Nat.zero_le _⟩) hP hD hS hA [14, 15, 16, 17, 18, 19, 20, 21, 22, 23, 24, 1, 2, 3, 4, 5] [0, 6, 7, 8, 9, 10, 11, 12, 13] [0, 20, 21, 22, 23, 24, 1, 2, 3, 4, 5, 6, 7, 8, 9, 10, 11, 12, 13, 14, 15, 16, 17, 18, 19] rfl rfl (by decide) (by decide) (by decide) rfl rfl (fun H locs hP hD hS => ?_)
        refine lv_iload_n hx hb dX10_sets_56 rfl (lv_at hl 3 rfl) ?_
        by_cases hw140 : v3 = 0
        · have hf := zif_t hw140 hf
          refine lv_tableIn (off := 35) (tgt := 92) hx hb dX10_sets_57 (by rw [hw140]; decide) (by rw [hw140]; decide) (by rw [hw140]; decide) (by decide) ?_
          refine lv_aload_n hx hb dX10_sets_92 rfl (lv_at hl 0 rfl) ?_
          refine zget (v := .ref (a0 13)) hx hb hown hT hK hP inX10 rfl smX10 0 rfl 13 (by decide) tb_444 rfl dX10_sets_93 ?_
          refine zget (v := .int (zI z12 0)) hx hb hown hT hK hP inX7 rfl smX7 14 rfl 0 (by decide) tb_281 rfl dX10_sets_96 ?_
          cases hf
          exact zewi hx hb hr hk hK hP hD hS dX10_sets_99
        · have hf := zif_f hw140 hf
          by_cases hw141 : v3 = 1
          · have hf := zif_t hw141 hf
            refine lv_tableIn (off := 43) (tgt := 100) hx hb dX10_sets_57 (by rw [hw141]; decide) (by rw [hw141]; decide) (by rw [hw141]; decide) (by decide) ?_
            refine lv_aload_n hx hb dX10_sets_100 rfl (lv_at hl 0 rfl) ?_
            refine zget (v := .ref (a0 13)) hx hb hown hT hK hP inX10 rfl smX10 0 rfl 13 (by decide) tb_444 rfl dX10_sets_101 ?_
            refine zget (v := .int (zI z12 1)) hx hb hown hT hK hP inX7 rfl smX7 14 rfl 1 (by decide) tb_283 rfl dX10_sets_104 ?_
            cases hf
            exact zewi hx hb hr hk hK hP hD hS dX10_sets_107
          · have hf := zif_f hw141 hf
            by_cases hw142 : v3 = 2
            · have hf := zif_t hw142 hf
              refine lv_tableIn (off := 51) (tgt := 108) hx hb dX10_sets_57 (by rw [hw142]; decide) (by rw [hw142]; decide) (by rw [hw142]; decide) (by decide) ?_
              refine lv_aload_n hx hb dX10_sets_108 rfl (lv_at hl 0 rfl) ?_
              refine zget (v := .ref (a0 13)) hx hb hown hT hK hP inX10 rfl smX10 0 rfl 13 (by decide) tb_444 rfl dX10_sets_109 ?_
              refine zget (v := .int (zI z12 2)) hx hb hown hT hK hP inX7 rfl smX7 14 rfl 2 (by decide) tb_285 rfl dX10_sets_112 ?_
              cases hf
              exact zewi hx hb hr hk hK hP hD hS dX10_sets_115
            · have hf := zif_f hw142 hf
              by_cases hw143 : v3 = 3
              · have hf := zif_t hw143 hf
                refine lv_tableIn (off := 59) (tgt := 116) hx hb dX10_sets_57 (by rw [hw143]; decide) (by rw [hw143]; decide) (by rw [hw143]; decide) (by decide) ?_
                refine lv_aload_n hx hb dX10_sets_116 rfl (lv_at hl 0 rfl) ?_
                refine zget (v := .ref (a0 13)) hx hb hown hT hK hP inX10 rfl smX10 0 rfl 13 (by decide) tb_444 rfl dX10_sets_117 ?_
                refine zget (v := .int (zI z12 3)) hx hb hown hT hK hP inX7 rfl smX7 14 rfl 3 (by decide) tb_287 rfl dX10_sets_120 ?_
                cases hf
                exact zewi hx hb hr hk hK hP hD hS dX10_sets_123
              · have hf := zif_f hw143 hf
                by_cases hw144 : v3 = 4
                · have hf := zif_t hw144 hf
                  refine lv_tableIn (off := 67) (tgt := 124) hx hb dX10_sets_57 (by rw [hw144]; decide) (by rw [hw144]; decide) (by rw [hw144]; decide) (by decide) ?_
                  refine lv_aload_n hx hb dX10_sets_124 rfl (lv_at hl 0 rfl) ?_
                  refine zget (v := .ref (a0 13)) hx hb hown hT hK hP inX10 rfl smX10 0 rfl 13 (by decide) tb_444 rfl dX10_sets_125 ?_
                  refine zget (v := .int (zI z12 4)) hx hb hown hT hK hP inX7 rfl smX7 14 rfl 4 (by decide) tb_289 rfl dX10_sets_128 ?_
                  cases hf
                  exact zewi hx hb hr hk hK hP hD hS dX10_sets_131
                · have hf := zif_f hw144 hf
                  refine lv_tableOut (tgt := 132) hx hb dX10_sets_57 (zsw 4 (by decide) (fun k hk => ?_)) (by decide) ?_
                  · rcases (show k = 0 ∨ k = 1 ∨ k = 2 ∨ k = 3 ∨ k = 4 by omega) with rfl | rfl | rfl | rfl | rfl
                    · exact hw140
                    · exact hw141
                    · exact hw142
                    · exact hw143
                    · exact hw144
                  · refine lv_aload_n hx hb dX10_sets_132 rfl (lv_at hl 0 rfl) ?_
                    refine zget (v := .ref (a0 13)) hx hb hown hT hK hP inX10 rfl smX10 0 rfl 13 (by decide) tb_444 rfl dX10_sets_133 ?_
                    refine zget (v := .int (zI z12 5)) hx hb hown hT hK hP inX7 rfl smX7 14 rfl 5 (by decide) tb_291 rfl dX10_sets_136 ?_
                    cases hf
                    exact zewi hx hb hr hk hK hP hD hS dX10_sets_139
      · have hf := zif_t hb_9 hf
        refine lv_bipush (v := (-2)) hx hb dX10_sets_23 (by decide) ?_
        cases hf
        exact zewi hx hb hr hk hK hP hD hS dX10_sets_25
set_option maxHeartbeats 4000000 in
set_option maxRecDepth 100000 in
theorem c_CH_sets {l : Launch} {dC : Nat → ClassId} {dI : Nat → Nat → Nat} {cy : Nat → ClassId} {sz : Nat} {N : Nat} (o0 : Nat) (a0 : Nat → Nat) (s0 : zSt) (a1 : Nat → Nat) (s1 : zSt) (a2 : Nat → Nat) (s2 : zSt) (a3 : Nat → Nat) (s3 : zSt) (a4 : Nat → Nat) (s4 : zSt) (v1 : Int32) (v2 : Int32) (v3 : Int32) (v4 : Int32) {y : Int32 × zSt × zSt} (hf : CH_sets N s0 s1 s2 s3 s4 v1 v2 v3 v4 = some y) : Met l yX10_sets (.code yX10_sets cX10_sets 5 (some .int) :: zt) rm_CH_sets (va_Pc [.ref o0, .int v1, .int v2, .int v3, .int v4] (zPre (dC, dI) cy (wd_CH_sets cy o0 a0 (zI s0) (zL s0) a1 (zI s1) (zL s1) (zA s1 1) (zA s1 3) (zA s1 4) (zA s1 5) a2 (zI s2) (zL s2) (zA s2 1) (zA s2 2) (zA s2 3) (zA s2 4) (zA s2 5) (zA s2 6) (zA s2 7) a3 (zI s3) (zL s3) (zA s3 8) (zA s3 9) (zA s3 10) (zA s3 11) (zA s3 12) (zA s3 13) a4 (zI s4) (zL s4) (zA s4 5) (zA s4 6) (zA s4 14)) sz)) (zQi y.1 (dC, dI) cy (wd_CH_sets cy o0 a0 (zI s0) (zL s0) a1 (zI y.2.1) (zL y.2.1) (zA y.2.1 1) (zA y.2.1 3) (zA y.2.1 4) (zA y.2.1 5) a2 (zI s2) (zL s2) (zA s2 1) (zA s2 2) (zA s2 3) (zA s2 4) (zA s2 5) (zA s2 6) (zA s2 7) a3 (zI y.2.2) (zL y.2.2) (zA y.2.2 8) (zA y.2.2 9) (zA y.2.2 10) (zA y.2.2 11) (zA y.2.2 12) (zA y.2.2 13) a4 (zI s4) (zL s4) (zA s4 5) (zA s4 6) (zA s4 14)) (va_A (wd_CH_sets cy o0 a0 (zI s0) (zL s0) a1 (zI s1) (zL s1) (zA s1 1) (zA s1 3) (zA s1 4) (zA s1 5) a2 (zI s2) (zL s2) (zA s2 1) (zA s2 2) (zA s2 3) (zA s2 4) (zA s2 5) (zA s2 6) (zA s2 7) a3 (zI s3) (zL s3) (zA s3 8) (zA s3 9) (zA s3 10) (zA s3 11) (zA s3 12) (zA s3 13) a4 (zI s4) (zL s4) (zA s4 5) (zA s4 6) (zA s4 14)) sz)) 0 0 (va_A (wd_CH_sets cy o0 a0 (zI s0) (zL s0) a1 (zI s1) (zL s1) (zA s1 1) (zA s1 3) (zA s1 4) (zA s1 5) a2 (zI s2) (zL s2) (zA s2 1) (zA s2 2) (zA s2 3) (zA s2 4) (zA s2 5) (zA s2 6) (zA s2 7) a3 (zI s3) (zL s3) (zA s3 8) (zA s3 9) (zA s3 10) (zA s3 11) (zA s3 12) (zA s3 13) a4 (zI s4) (zL s4) (zA s4 5) (zA s4 6) (zA s4 14)) sz) :=
  zentW (Qw := fun A => (zQi y.1 (dC, dI) cy (wd_CH_sets cy o0 a0 (zI s0) (zL s0) a1 (zI y.2.1) (zL y.2.1) (zA y.2.1 1) (zA y.2.1 3) (zA y.2.1 4) (zA y.2.1 5) a2 (zI s2) (zL s2) (zA s2 1) (zA s2 2) (zA s2 3) (zA s2 4) (zA s2 5) (zA s2 6) (zA s2 7) a3 (zI y.2.2) (zL y.2.2) (zA y.2.2 8) (zA y.2.2 9) (zA y.2.2 10) (zA y.2.2 11) (zA y.2.2 12) (zA y.2.2 13) a4 (zI s4) (zL s4) (zA s4 5) (zA s4 6) (zA s4 14)) A)) (by decide +kernel) (Nat.le_of_ble_eq_true rfl) (fun p e s m below meth c A C0 hA hP hD hS ls hl => k_CH_sets_b0 C0 s0 s1 s2 s3 s4 v1 v2 v3 v4 hA hP hD hS hf ls hl)
def wd_CH_spring (cy : Nat → ClassId) (o0 : Nat) (a0 : Nat → Nat) (g0 : Nat → Int32) (h0 : Nat → Int64) (a1 : Nat → Nat) (g1 : Nat → Int32) (h1 : Nat → Int64) (a2 : Nat → Nat) (g2 : Nat → Int32) (h2 : Nat → Int64) : va_W := [(o0, .inr (10, fs_CH a0 g0 h0)), ((a0 3), .inr (9, fs_Valley a1 g1 h1)), ((a0 14), .inr (5, fs_Parting a2 g2 h2))]
def rm_CH_spring : Room := { frames := 3, cells := 0, slots := 0, locals := 83 }
theorem rm_ok_CH_spring_CH_isPlace : rm_CH_isPlace.cells = 0 ∧ rm_CH_isPlace.slots = 0 ∧ rm_CH_isPlace.frames + 1 ≤ rm_CH_spring.frames ∧ 8 + (1 + 11) + rm_CH_isPlace.locals ≤ rm_CH_spring.locals := by decide
theorem rm_ok_CH_spring_CH_isQuarter : rm_CH_isQuarter.cells = 0 ∧ rm_CH_isQuarter.slots = 0 ∧ rm_CH_isQuarter.frames + 1 ≤ rm_CH_spring.frames ∧ 8 + (1 + 11) + rm_CH_isQuarter.locals ≤ rm_CH_spring.locals := by decide
theorem rm_ok_CH_spring_Valley_hasEar : rm_Valley_hasEar.cells = 0 ∧ rm_Valley_hasEar.slots = 0 ∧ rm_Valley_hasEar.frames + 1 ≤ rm_CH_spring.frames ∧ 8 + (2 + 11) + rm_Valley_hasEar.locals ≤ rm_CH_spring.locals := by decide
set_option maxHeartbeats 4000000 in
set_option maxRecDepth 100000 in
theorem k_CH_spring_b0 {p : Program} {l : Launch} {e : Env} {s : State} {m : MethodId} {args : Array Value} {below : List Frame} {meth : Method} {c : Code} {dC : Nat → ClassId} {dI : Nat → Nat → Nat} {cy : Nat → ClassId} {A : Nat → Prop} {o0 : Nat} {a0 : Nat → Nat} {a1 : Nat → Nat} {a2 : Nat → Nat} {N : Nat} {y : Int32 × zSt} (C0 : zCx p s m args meth c cX10_spring 6 (some .boolean) RX10 (dC, dI) cy) (s0 : zSt) (s1 : zSt) (s2 : zSt) (v1 : Int32) (v2 : Int32) (v3 : Int32) (v4 : Int32) (v5 : Int32) (hA : ∀ q, s.heap.size ≤ q → A q) {H : Heap} {locs : List Loc} (hP : va_P (dC, dI) vwCl (wd_CH_spring cy o0 a0 (zI s0) (zL s0) a1 (zI s1) (zL s1) a2 (zI s2) (zL s2)) H) (hD : va_D A (wd_CH_spring cy o0 a0 (zI s0) (zL s0) a1 (zI s1) (zL s1) a2 (zI s2) (zL s2))) (hS : va_S A s.heap H locs) (hf : CH_spring_b0 N s0 s1 s2 v1 v2 v3 v4 v5 = some y) (ls : Array Slot) (hl : lv_has ls 6 [(0, .ref o0), (1, .int v1), (2, .int v2), (3, .int v3), (4, .int v4), (5, .int v5)]) : W p l e rm_CH_spring s m args below meth c H locs 0 0 (MQ below (zQi y.1 (dC, dI) cy (wd_CH_spring cy o0 a0 (zI s0) (zL s0) a1 (zI s1) (zL s1) a2 (zI y.2) (zL y.2)) A) args s 0 0 A) (F0 m 0 ls []) := by
  obtain ⟨hx, hb, hr, hml, hown, hT, hk, hK⟩ := id C0
  refine lv_aload_n hx hb dX10_spring_0 rfl (lv_at hl 0 rfl) ?_
  refine zget (v := .ref (a0 3)) hx hb hown hT hK hP inX10 rfl smX10 0 rfl 3 (by decide) tb_434 rfl dX10_spring_1 ?_
  refine lv_iload_n hx hb dX10_spring_4 rfl (lv_at hl 1 rfl) ?_
  obtain ⟨z1, hc2, hf⟩ := zbd_some hf
  refine zri (zV (As := [.int v1]) hx hb hml hown hT hl.1 (c_Valley_hasEar (a0 3) a1 s1 v1 hc2) zY_Valley_hasEar tb_668 (zpR hK hP [1] rfl 0 9 rfl rfl rfl) rm_ok_CH_spring_Valley_hasEar rfl rfl (Nat.le_of_ble_eq_true rfl) dX10_spring_5 ⟨Nat.zero_le _, Nat.zero_le _⟩) ?_
  refine lv_if_eq (tgt := 27) hx hb dX10_spring_8 (by decide) (fun hb_3 => ?_) (fun hb_3 => ?_)
  · have hf := zif_t hb_3 hf
    refine lv_iconst (v := 0) hx hb dX10_spring_27 (by decide) ?_
    cases hf
    exact zewz hx hb hr hk (Or.inl rfl) hK hP hD hS dX10_spring_28
  · have hf := zif_f hb_3 hf
    refine lv_aload_n hx hb dX10_spring_11 rfl (lv_at hl 0 rfl) ?_
    refine zget (v := .ref (a0 3)) hx hb hown hT hK hP inX10 rfl smX10 0 rfl 3 (by decide) tb_434 rfl dX10_spring_12 ?_
    refine lv_iload_n hx hb dX10_spring_15 rfl (lv_at hl 3 rfl) ?_
    obtain ⟨z4, hc5, hf⟩ := zbd_some hf
    refine zri (zV (As := [.int v3]) hx hb hml hown hT hl.1 (c_Valley_hasEar (a0 3) a1 s1 v3 hc5) zY_Valley_hasEar tb_668 (zpR hK hP [1] rfl 0 9 rfl rfl rfl) rm_ok_CH_spring_Valley_hasEar rfl rfl (Nat.le_of_ble_eq_true rfl) dX10_spring_16 ⟨Nat.zero_le _, Nat.zero_le _⟩) ?_
    refine lv_if_eq (tgt := 27) hx hb dX10_spring_19 (by decide) (fun hb_6 => ?_) (fun hb_6 => ?_)
    · have hf := zif_t hb_6 hf
      refine lv_iconst (v := 0) hx hb dX10_spring_27 (by decide) ?_
      cases hf
      exact zewz hx hb hr hk (Or.inl rfl) hK hP hD hS dX10_spring_28
    · have hf := zif_f hb_6 hf
      refine lv_iload_n hx hb dX10_spring_22 rfl (lv_at hl 1 rfl) ?_
      refine lv_iload_n hx hb dX10_spring_23 rfl (lv_at hl 3 rfl) ?_
      refine lv_icmp_ne (tgt := 29) hx hb dX10_spring_24 (by decide) (fun hb_7 => ?_) (fun hb_7 => ?_)
      · have hf := zif_f hb_7 hf
        refine lv_iload_n hx hb dX10_spring_29 rfl (lv_at hl 2 rfl) ?_
        obtain ⟨z8, hc9, hf⟩ := zbd_some hf
        refine zri (zS (As := [.int v2]) hx hb hml hown hT hl.1 (c_CH_isPlace v2 hc9) zY_CH_isPlace tb_713 (zpS hK hP [] rfl) rm_ok_CH_spring_CH_isPlace rfl rfl (Nat.le_of_ble_eq_true rfl) dX10_spring_30 ⟨Nat.zero_le _, Nat.zero_le _⟩) ?_
        refine lv_if_eq (tgt := 52) hx hb dX10_spring_33 (by decide) (fun hb_10 => ?_) (fun hb_10 => ?_)
        · have hf := zif_t hb_10 hf
          refine lv_iconst (v := 0) hx hb dX10_spring_52 (by decide) ?_
          cases hf
          exact zewz hx hb hr hk (Or.inl rfl) hK hP hD hS dX10_spring_53
        · have hf := zif_f hb_10 hf
          refine lv_iload hx hb dX10_spring_36 (lv_at hl 4 rfl) ?_
          obtain ⟨z11, hc12, hf⟩ := zbd_some hf
          refine zri (zS (As := [.int v4]) hx hb hml hown hT hl.1 (c_CH_isPlace v4 hc12) zY_CH_isPlace tb_713 (zpS hK hP [] rfl) rm_ok_CH_spring_CH_isPlace rfl rfl (Nat.le_of_ble_eq_true rfl) dX10_spring_38 ⟨Nat.zero_le _, Nat.zero_le _⟩) ?_
          refine lv_if_eq (tgt := 52) hx hb dX10_spring_41 (by decide) (fun hb_13 => ?_) (fun hb_13 => ?_)
          · have hf := zif_t hb_13 hf
            refine lv_iconst (v := 0) hx hb dX10_spring_52 (by decide) ?_
            cases hf
            exact zewz hx hb hr hk (Or.inl rfl) hK hP hD hS dX10_spring_53
          · have hf := zif_f hb_13 hf
            refine lv_iload hx hb dX10_spring_44 (lv_at hl 5 rfl) ?_
            obtain ⟨z14, hc15, hf⟩ := zbd_some hf
            refine zri (zS (As := [.int v5]) hx hb hml hown hT hl.1 (c_CH_isQuarter v5 hc15) zY_CH_isQuarter tb_731 (zpS hK hP [] rfl) rm_ok_CH_spring_CH_isQuarter rfl rfl (Nat.le_of_ble_eq_true rfl) dX10_spring_46 ⟨Nat.zero_le _, Nat.zero_le _⟩) ?_
            refine lv_if_ne (tgt := 54) hx hb dX10_spring_49 (by decide) (fun hb_16 => ?_) (fun hb_16 => ?_)
            · have hf := zif_f hb_16 hf
              refine lv_aload_n hx hb dX10_spring_54 rfl (lv_at hl 0 rfl) ?_
              refine zget (v := .ref (a0 14)) hx hb hown hT hK hP inX10 rfl smX10 0 rfl 14 (by decide) tb_445 rfl dX10_spring_55 ?_
              refine lv_iconst (v := 1) hx hb dX10_spring_58 (by decide) ?_
              refine zput (fs' := fs_Parting a2 (upd (zI s2) 0 1) (zL s2)) (ws' := (wd_CH_spring cy o0 a0 (zI s0) (zL s0) a1 (zI s1) (zL s1) a2 (upd (zI s2) 0 1) (zL s2))) hx hb hown hT hK hP hD hS inX5 rfl smX5 tyX5_ok nmX5 2 rfl 0 (by decide) tb_335 rfl rfl rfl (Nat.le_of_ble_eq_true rfl) rfl rfl dX10_spring_59 (fun H locs hP hD hS => ?_)
              refine lv_aload_n hx hb dX10_spring_62 rfl (lv_at hl 0 rfl) ?_
              refine zget (v := .ref (a0 14)) hx hb hown hT hK hP inX10 rfl smX10 0 rfl 14 (by decide) tb_445 rfl dX10_spring_63 ?_
              refine lv_iload_n hx hb dX10_spring_66 rfl (lv_at hl 1 rfl) ?_
              refine zput (fs' := fs_Parting a2 (upd (upd (zI s2) 0 1) 1 v1) (zL s2)) (ws' := (wd_CH_spring cy o0 a0 (zI s0) (zL s0) a1 (zI s1) (zL s1) a2 (upd (upd (zI s2) 0 1) 1 v1) (zL s2))) hx hb hown hT hK hP hD hS inX5 rfl smX5 tyX5_ok nmX5 2 rfl 1 (by decide) tb_337 rfl rfl rfl (Nat.le_of_ble_eq_true rfl) rfl rfl dX10_spring_67 (fun H locs hP hD hS => ?_)
              refine lv_aload_n hx hb dX10_spring_70 rfl (lv_at hl 0 rfl) ?_
              refine zget (v := .ref (a0 14)) hx hb hown hT hK hP inX10 rfl smX10 0 rfl 14 (by decide) tb_445 rfl dX10_spring_71 ?_
              refine lv_iload_n hx hb dX10_spring_74 rfl (lv_at hl 2 rfl) ?_
              refine zput (fs' := fs_Parting a2 (upd (upd (upd (zI s2) 0 1) 1 v1) 2 v2) (zL s2)) (ws' := (wd_CH_spring cy o0 a0 (zI s0) (zL s0) a1 (zI s1) (zL s1) a2 (upd (upd (upd (zI s2) 0 1) 1 v1) 2 v2) (zL s2))) hx hb hown hT hK hP hD hS inX5 rfl smX5 tyX5_ok nmX5 2 rfl 2 (by decide) tb_339 rfl rfl rfl (Nat.le_of_ble_eq_true rfl) rfl rfl dX10_spring_75 (fun H locs hP hD hS => ?_)
              refine lv_aload_n hx hb dX10_spring_78 rfl (lv_at hl 0 rfl) ?_
              refine zget (v := .ref (a0 14)) hx hb hown hT hK hP inX10 rfl smX10 0 rfl 14 (by decide) tb_445 rfl dX10_spring_79 ?_
              refine lv_iload_n hx hb dX10_spring_82 rfl (lv_at hl 3 rfl) ?_
              refine zput (fs' := fs_Parting a2 (upd (upd (upd (upd (zI s2) 0 1) 1 v1) 2 v2) 3 v3) (zL s2)) (ws' := (wd_CH_spring cy o0 a0 (zI s0) (zL s0) a1 (zI s1) (zL s1) a2 (upd (upd (upd (upd (zI s2) 0 1) 1 v1) 2 v2) 3 v3) (zL s2))) hx hb hown hT hK hP hD hS inX5 rfl smX5 tyX5_ok nmX5 2 rfl 3 (by decide) tb_341 rfl rfl rfl (Nat.le_of_ble_eq_true rfl) rfl rfl dX10_spring_83 (fun H locs hP hD hS => ?_)
              refine lv_aload_n hx hb dX10_spring_86 rfl (lv_at hl 0 rfl) ?_
              refine zget (v := .ref (a0 14)) hx hb hown hT hK hP inX10 rfl smX10 0 rfl 14 (by decide) tb_445 rfl dX10_spring_87 ?_
              refine lv_iload hx hb dX10_spring_90 (lv_at hl 4 rfl) ?_
              refine zput (fs' := fs_Parting a2 (upd (upd (upd (upd (upd (zI s2) 0 1) 1 v1) 2 v2) 3 v3) 4 v4) (zL s2)) (ws' := (wd_CH_spring cy o0 a0 (zI s0) (zL s0) a1 (zI s1) (zL s1) a2 (upd (upd (upd (upd (upd (zI s2) 0 1) 1 v1) 2 v2) 3 v3) 4 v4) (zL s2))) hx hb hown hT hK hP hD hS inX5 rfl smX5 tyX5_ok nmX5 2 rfl 4 (by decide) tb_343 rfl rfl rfl (Nat.le_of_ble_eq_true rfl) rfl rfl dX10_spring_92 (fun H locs hP hD hS => ?_)
              refine lv_aload_n hx hb dX10_spring_95 rfl (lv_at hl 0 rfl) ?_
              refine zget (v := .ref (a0 14)) hx hb hown hT hK hP inX10 rfl smX10 0 rfl 14 (by decide) tb_445 rfl dX10_spring_96 ?_
              refine lv_iload hx hb dX10_spring_99 (lv_at hl 5 rfl) ?_
              refine zput (fs' := fs_Parting a2 (upd (upd (upd (upd (upd (upd (zI s2) 0 1) 1 v1) 2 v2) 3 v3) 4 v4) 5 v5) (zL s2)) (ws' := (wd_CH_spring cy o0 a0 (zI s0) (zL s0) a1 (zI s1) (zL s1) a2 (upd (upd (upd (upd (upd (upd (zI s2) 0 1) 1 v1) 2 v2) 3 v3) 4 v4) 5 v5) (zL s2))) hx hb hown hT hK hP hD hS inX5 rfl smX5 tyX5_ok nmX5 2 rfl 5 (by decide) tb_344 rfl rfl rfl (Nat.le_of_ble_eq_true rfl) rfl rfl dX10_spring_101 (fun H locs hP hD hS => ?_)
              refine lv_iconst (v := 1) hx hb dX10_spring_104 (by decide) ?_
              cases hf
              exact zewz hx hb hr hk (Or.inr rfl) hK hP hD hS dX10_spring_105
            · have hf := zif_t hb_16 hf
              refine lv_iconst (v := 0) hx hb dX10_spring_52 (by decide) ?_
              cases hf
              exact zewz hx hb hr hk (Or.inl rfl) hK hP hD hS dX10_spring_53
      · have hf := zif_t hb_7 hf
        refine lv_iconst (v := 0) hx hb dX10_spring_27 (by decide) ?_
        cases hf
        exact zewz hx hb hr hk (Or.inl rfl) hK hP hD hS dX10_spring_28
set_option maxHeartbeats 4000000 in
set_option maxRecDepth 100000 in
theorem c_CH_spring {l : Launch} {dC : Nat → ClassId} {dI : Nat → Nat → Nat} {cy : Nat → ClassId} {sz : Nat} {N : Nat} (o0 : Nat) (a0 : Nat → Nat) (s0 : zSt) (a1 : Nat → Nat) (s1 : zSt) (a2 : Nat → Nat) (s2 : zSt) (v1 : Int32) (v2 : Int32) (v3 : Int32) (v4 : Int32) (v5 : Int32) {y : Int32 × zSt} (hf : CH_spring N s0 s1 s2 v1 v2 v3 v4 v5 = some y) : Met l yX10_spring (.code yX10_spring cX10_spring 6 (some .boolean) :: zt) rm_CH_spring (va_Pc [.ref o0, .int v1, .int v2, .int v3, .int v4, .int v5] (zPre (dC, dI) cy (wd_CH_spring cy o0 a0 (zI s0) (zL s0) a1 (zI s1) (zL s1) a2 (zI s2) (zL s2)) sz)) (zQi y.1 (dC, dI) cy (wd_CH_spring cy o0 a0 (zI s0) (zL s0) a1 (zI s1) (zL s1) a2 (zI y.2) (zL y.2)) (va_A (wd_CH_spring cy o0 a0 (zI s0) (zL s0) a1 (zI s1) (zL s1) a2 (zI s2) (zL s2)) sz)) 0 0 (va_A (wd_CH_spring cy o0 a0 (zI s0) (zL s0) a1 (zI s1) (zL s1) a2 (zI s2) (zL s2)) sz) :=
  zentW (Qw := fun A => (zQi y.1 (dC, dI) cy (wd_CH_spring cy o0 a0 (zI s0) (zL s0) a1 (zI s1) (zL s1) a2 (zI y.2) (zL y.2)) A)) (by decide +kernel) (Nat.le_of_ble_eq_true rfl) (fun p e s m below meth c A C0 hA hP hD hS ls hl => k_CH_spring_b0 C0 s0 s1 s2 v1 v2 v3 v4 v5 hA hP hD hS hf ls hl)
def wd_CH_parted (cy : Nat → ClassId) (o0 : Nat) (a0 : Nat → Nat) (g0 : Nat → Int32) (h0 : Nat → Int64) (a1 : Nat → Nat) (g1 : Nat → Int32) (h1 : Nat → Int64) (a2 : Nat → Nat) (g2 : Nat → Int32) (h2 : Nat → Int64) (x2_1 : Nat → Int32) (x2_3 : Nat → Int32) (x2_4 : Nat → Int32) (x2_5 : Nat → Int32) (a3 : Nat → Nat) (g3 : Nat → Int32) (h3 : Nat → Int64) (x3_1 : Nat → Int32) (x3_2 : Nat → Int32) (x3_3 : Nat → Int32) (x3_4 : Nat → Int32) (x3_5 : Nat → Int32) (x3_6 : Nat → Int32) (x3_7 : Nat → Int32) (a4 : Nat → Nat) (g4 : Nat → Int32) (h4 : Nat → Int64) (x4_2 : Nat → Int32) (x4_5 : Nat → Int32) (x4_6 : Nat → Int32) (x4_14 : Nat → Int32) : va_W := [(o0, .inr (10, fs_CH a0 g0 h0)), ((a0 14), .inr (5, fs_Parting a1 g1 h1)), ((a0 12), .inr (0, fs_Bounds a2 g2 h2)), (a2 1, .inl (cy 0, 4, .inl x2_1)), (a2 3, .inl (cy 0, 4, .inl x2_3)), (a2 4, .inl (cy 0, 48, .inl x2_4)), (a2 5, .inl (cy 0, 48, .inl x2_5)), ((a0 8), .inr (4, fs_Entries a3 g3 h3)), (a3 1, .inl (cy 0, 40, .inl x3_1)), (a3 2, .inl (cy 0, 40, .inl x3_2)), (a3 3, .inl (cy 0, 40, .inl x3_3)), (a3 4, .inl (cy 0, 40, .inl x3_4)), (a3 5, .inl (cy 0, 40, .inl x3_5)), (a3 6, .inl (cy 0, 40, .inl x3_6)), (a3 7, .inl (cy 0, 40, .inl x3_7)), ((a0 3), .inr (9, fs_Valley a4 g4 h4)), (a4 2, .inl (cy 0, 3, .inl x4_2)), (a4 5, .inl (cy 0, 11, .inl x4_5)), (a4 6, .inl (cy 0, 11, .inl x4_6)), (a4 14, .inl (cy 0, 4, .inl x4_14))]
def rm_CH_parted : Room := { frames := 6, cells := 0, slots := 0, locals := 163 }
theorem rm_ok_CH_parted_Bounds_gather : rm_Bounds_gather.cells = 0 ∧ rm_Bounds_gather.slots = 0 ∧ rm_Bounds_gather.frames + 1 ≤ rm_CH_parted.frames ∧ 8 + (5 + 11) + rm_Bounds_gather.locals ≤ rm_CH_parted.locals := by decide
theorem rm_ok_CH_parted_CH_isWind : rm_CH_isWind.cells = 0 ∧ rm_CH_isWind.slots = 0 ∧ rm_CH_isWind.frames + 1 ≤ rm_CH_parted.frames ∧ 8 + (1 + 11) + rm_CH_isWind.locals ≤ rm_CH_parted.locals := by decide
theorem rm_ok_CH_parted_CH_within : rm_CH_within.cells = 0 ∧ rm_CH_within.slots = 0 ∧ rm_CH_within.frames + 1 ≤ rm_CH_parted.frames ∧ 8 + (3 + 11) + rm_CH_within.locals ≤ rm_CH_parted.locals := by decide
theorem rm_ok_CH_parted_Parting_seek : rm_Parting_seek.cells = 0 ∧ rm_Parting_seek.slots = 0 ∧ rm_Parting_seek.frames + 1 ≤ rm_CH_parted.frames ∧ 8 + (5 + 11) + rm_Parting_seek.locals ≤ rm_CH_parted.locals := by decide
set_option maxHeartbeats 4000000 in
set_option maxRecDepth 100000 in
theorem k_CH_parted_b0 {p : Program} {l : Launch} {e : Env} {s : State} {m : MethodId} {args : Array Value} {below : List Frame} {meth : Method} {c : Code} {dC : Nat → ClassId} {dI : Nat → Nat → Nat} {cy : Nat → ClassId} {A : Nat → Prop} {o0 : Nat} {a0 : Nat → Nat} {a1 : Nat → Nat} {a2 : Nat → Nat} {a3 : Nat → Nat} {a4 : Nat → Nat} {N : Nat} {y : Int32 × zSt × zSt} (C0 : zCx p s m args meth c cX10_parted 4 (some .int) RX10 (dC, dI) cy) (s0 : zSt) (s1 : zSt) (s2 : zSt) (s3 : zSt) (s4 : zSt) (v1 : Int32) (v2 : Int32) (v3 : Int32) (hA : ∀ q, s.heap.size ≤ q → A q) {H : Heap} {locs : List Loc} (hP : va_P (dC, dI) vwCl (wd_CH_parted cy o0 a0 (zI s0) (zL s0) a1 (zI s1) (zL s1) a2 (zI s2) (zL s2) (zA s2 1) (zA s2 3) (zA s2 4) (zA s2 5) a3 (zI s3) (zL s3) (zA s3 1) (zA s3 2) (zA s3 3) (zA s3 4) (zA s3 5) (zA s3 6) (zA s3 7) a4 (zI s4) (zL s4) (zA s4 2) (zA s4 5) (zA s4 6) (zA s4 14)) H) (hD : va_D A (wd_CH_parted cy o0 a0 (zI s0) (zL s0) a1 (zI s1) (zL s1) a2 (zI s2) (zL s2) (zA s2 1) (zA s2 3) (zA s2 4) (zA s2 5) a3 (zI s3) (zL s3) (zA s3 1) (zA s3 2) (zA s3 3) (zA s3 4) (zA s3 5) (zA s3 6) (zA s3 7) a4 (zI s4) (zL s4) (zA s4 2) (zA s4 5) (zA s4 6) (zA s4 14))) (hS : va_S A s.heap H locs) (hf : CH_parted_b0 N s0 s1 s2 s3 s4 v1 v2 v3 = some y) (ls : Array Slot) (hl : lv_has ls 4 [(0, .ref o0), (1, .int v1), (2, .int v2), (3, .int v3)]) : W p l e rm_CH_parted s m args below meth c H locs 0 0 (MQ below (zQi y.1 (dC, dI) cy (wd_CH_parted cy o0 a0 (zI s0) (zL s0) a1 (zI y.2.1) (zL y.2.1) a2 (zI y.2.2) (zL y.2.2) (zA y.2.2 1) (zA y.2.2 3) (zA y.2.2 4) (zA y.2.2 5) a3 (zI s3) (zL s3) (zA s3 1) (zA s3 2) (zA s3 3) (zA s3 4) (zA s3 5) (zA s3 6) (zA s3 7) a4 (zI s4) (zL s4) (zA s4 2) (zA s4 5) (zA s4 6) (zA s4 14)) A) args s 0 0 A) (F0 m 0 ls []) := by
  obtain ⟨hx, hb, hr, hml, hown, hT, hk, hK⟩ := id C0
  refine lv_aload_n hx hb dX10_parted_0 rfl (lv_at hl 0 rfl) ?_
  refine zget (v := .ref (a0 14)) hx hb hown hT hK hP inX10 rfl smX10 0 rfl 14 (by decide) tb_445 rfl dX10_parted_1 ?_
  refine zget (v := .int (zI s1 0)) hx hb hown hT hK hP inX5 rfl smX5 1 rfl 0 (by decide) tb_335 rfl dX10_parted_4 ?_
  refine lv_if_eq (tgt := 26) hx hb dX10_parted_7 (by decide) (fun hb_1 => ?_) (fun hb_1 => ?_)
  · have hf := zif_t hb_1 hf
    refine lv_bipush (v := (-2)) hx hb dX10_parted_26 (by decide) ?_
    cases hf
    exact zewi hx hb hr hk hK hP hD hS dX10_parted_28
  · have hf := zif_f hb_1 hf
    refine lv_iload_n hx hb dX10_parted_10 rfl (lv_at hl 1 rfl) ?_
    obtain ⟨z2, hc3, hf⟩ := zbd_some hf
    refine zri (zS (As := [.int v1]) hx hb hml hown hT hl.1 (c_CH_isWind v1 hc3) zY_CH_isWind tb_716 (zpS hK hP [] rfl) rm_ok_CH_parted_CH_isWind rfl rfl (Nat.le_of_ble_eq_true rfl) dX10_parted_11 ⟨Nat.zero_le _, Nat.zero_le _⟩) ?_
    refine lv_if_eq (tgt := 26) hx hb dX10_parted_14 (by decide) (fun hb_4 => ?_) (fun hb_4 => ?_)
    · have hf := zif_t hb_4 hf
      refine lv_bipush (v := (-2)) hx hb dX10_parted_26 (by decide) ?_
      cases hf
      exact zewi hx hb hr hk hK hP hD hS dX10_parted_28
    · have hf := zif_f hb_4 hf
      refine lv_iload_n hx hb dX10_parted_17 rfl (lv_at hl 2 rfl) ?_
      refine lv_iconst (v := 0) hx hb dX10_parted_18 (by decide) ?_
      refine lv_iconst (v := 4) hx hb dX10_parted_19 (by decide) ?_
      obtain ⟨z5, hc6, hf⟩ := zbd_some hf
      refine zri (zS (As := [.int v2, .int 0, .int 4]) hx hb hml hown hT hl.1 (c_CH_within v2 0 4 hc6) zY_CH_within tb_495 (zpS hK hP [] rfl) rm_ok_CH_parted_CH_within rfl rfl (Nat.le_of_ble_eq_true rfl) dX10_parted_20 ⟨Nat.zero_le _, Nat.zero_le _⟩) ?_
      refine lv_if_ne (tgt := 29) hx hb dX10_parted_23 (by decide) (fun hb_7 => ?_) (fun hb_7 => ?_)
      · have hf := zif_f hb_7 hf
        refine lv_aload_n hx hb dX10_parted_29 rfl (lv_at hl 0 rfl) ?_
        refine zget (v := .ref (a0 12)) hx hb hown hT hK hP inX10 rfl smX10 0 rfl 12 (by decide) tb_443 rfl dX10_parted_30 ?_
        refine lv_aload_n hx hb dX10_parted_33 rfl (lv_at hl 0 rfl) ?_
        refine zget (v := .ref (a0 8)) hx hb hown hT hK hP inX10 rfl smX10 0 rfl 8 (by decide) tb_439 rfl dX10_parted_34 ?_
        refine lv_aload_n hx hb dX10_parted_37 rfl (lv_at hl 0 rfl) ?_
        refine zget (v := .ref (a0 14)) hx hb hown hT hK hP inX10 rfl smX10 0 rfl 14 (by decide) tb_445 rfl dX10_parted_38 ?_
        refine zget (v := .int (zI s1 5)) hx hb hown hT hK hP inX5 rfl smX5 1 rfl 5 (by decide) tb_344 rfl dX10_parted_41 ?_
        refine lv_iload_n hx hb dX10_parted_44 rfl (lv_at hl 3 rfl) ?_
        obtain ⟨z8, hc9, hf⟩ := zbd_some hf
        refine zwv (wr := [(o0, .inr (10, fs_CH a0 (zI s0) (zL s0))), ((a0 14), .inr (5, fs_Parting a1 (zI s1) (zL s1))), ((a0 3), .inr (9, fs_Valley a4 (zI s4) (zL s4))), (a4 2, .inl (cy 0, 3, .inl (zA s4 2))), (a4 5, .inl (cy 0, 11, .inl (zA s4 5))), (a4 6, .inl (cy 0, 11, .inl (zA s4 6))), (a4 14, .inl (cy 0, 4, .inl (zA s4 14)))]) (ws' := (wd_CH_parted cy o0 a0 (zI s0) (zL s0) a1 (zI s1) (zL s1) a2 (zI z8) (zL z8) (zA z8 1) (zA z8 3) (zA z8 4) (zA z8 5) a3 (zI s3) (zL s3) (zA s3 1) (zA s3 2) (zA s3 3) (zA s3 4) (zA s3 5) (zA s3 6) (zA s3 7) a4 (zI s4) (zL s4) (zA s4 2) (zA s4 5) (zA s4 6) (zA s4 14))) (zV (As := [.ref (a0 8), .int (zI s1 5), .int v3]) hx hb hml hown hT hl.1 (c_Bounds_gather (a0 12) a2 s2 (a0 8) a3 s3 (zI s1 5) v3 hc9) zY_Bounds_gather tb_762 (zpRw hK hP hD [2, 3, 4, 5, 6, 7, 8, 9, 10, 11, 12, 13, 14] (by decide) rfl 0 0 rfl rfl rfl rfl) rm_ok_CH_parted_Bounds_gather rfl rfl (Nat.le_of_ble_eq_true rfl) dX10_parted_45 ⟨Nat.zero_le _, Nat.zero_le _⟩) hP hD hS hA [2, 3, 4, 5, 6, 7, 8, 9, 10, 11, 12, 13, 14] [0, 1, 15, 16, 17, 18, 19] [0, 1, 7, 8, 9, 10, 11, 12, 13, 14, 15, 16, 17, 18, 19, 2, 3, 4, 5, 6] rfl rfl (by decide) (by decide) (by decide) rfl rfl (fun H locs hP hD hS => ?_)
        refine lv_aload_n hx hb dX10_parted_48 rfl (lv_at hl 0 rfl) ?_
        refine zget (v := .ref (a0 14)) hx hb hown hT hK hP inX10 rfl smX10 0 rfl 14 (by decide) tb_445 rfl dX10_parted_49 ?_
        refine lv_aload_n hx hb dX10_parted_52 rfl (lv_at hl 0 rfl) ?_
        refine zget (v := .ref (a0 3)) hx hb hown hT hK hP inX10 rfl smX10 0 rfl 3 (by decide) tb_434 rfl dX10_parted_53 ?_
        refine lv_aload_n hx hb dX10_parted_56 rfl (lv_at hl 0 rfl) ?_
        refine zget (v := .ref (a0 12)) hx hb hown hT hK hP inX10 rfl smX10 0 rfl 12 (by decide) tb_443 rfl dX10_parted_57 ?_
        refine lv_iload_n hx hb dX10_parted_60 rfl (lv_at hl 1 rfl) ?_
        obtain ⟨z10, hc11, hf⟩ := zbd_some hf
        refine zwv (wr := [(o0, .inr (10, fs_CH a0 (zI s0) (zL s0))), (a2 3, .inl (cy 0, 4, .inl (zA z8 3))), ((a0 8), .inr (4, fs_Entries a3 (zI s3) (zL s3))), (a3 1, .inl (cy 0, 40, .inl (zA s3 1))), (a3 2, .inl (cy 0, 40, .inl (zA s3 2))), (a3 3, .inl (cy 0, 40, .inl (zA s3 3))), (a3 4, .inl (cy 0, 40, .inl (zA s3 4))), (a3 5, .inl (cy 0, 40, .inl (zA s3 5))), (a3 6, .inl (cy 0, 40, .inl (zA s3 6))), (a3 7, .inl (cy 0, 40, .inl (zA s3 7)))]) (ws' := (wd_CH_parted cy o0 a0 (zI s0) (zL s0) a1 (zI z10) (zL z10) a2 (zI z8) (zL z8) (zA z8 1) (zA z8 3) (zA z8 4) (zA z8 5) a3 (zI s3) (zL s3) (zA s3 1) (zA s3 2) (zA s3 3) (zA s3 4) (zA s3 5) (zA s3 6) (zA s3 7) a4 (zI s4) (zL s4) (zA s4 2) (zA s4 5) (zA s4 6) (zA s4 14))) (zV (As := [.ref (a0 3), .ref (a0 12), .int v1]) hx hb hml hown hT hl.1 (c_Parting_seek (a0 14) a1 s1 (a0 3) a4 s4 (a0 12) a2 z8 v1 hc11) zY_Parting_seek tb_835 (zpRw hK hP hD [1, 15, 16, 17, 18, 19, 2, 3, 5, 6] (by decide) rfl 0 5 rfl rfl rfl rfl) rm_ok_CH_parted_Parting_seek rfl rfl (Nat.le_of_ble_eq_true rfl) dX10_parted_61 ⟨Nat.zero_le _, Nat.zero_le _⟩) hP hD hS hA [1, 15, 16, 17, 18, 19, 2, 3, 5, 6] [0, 4, 7, 8, 9, 10, 11, 12, 13, 14] [0, 10, 16, 17, 1, 18, 19, 2, 3, 4, 5, 6, 7, 8, 9, 11, 12, 13, 14, 15] rfl rfl (by decide) (by decide) (by decide) rfl rfl (fun H locs hP hD hS => ?_)
        refine lv_iload_n hx hb dX10_parted_64 rfl (lv_at hl 2 rfl) ?_
        by_cases hw120 : v2 = 0
        · have hf := zif_t hw120 hf
          refine lv_tableIn (off := 31) (tgt := 96) hx hb dX10_parted_65 (by rw [hw120]; decide) (by rw [hw120]; decide) (by rw [hw120]; decide) (by decide) ?_
          refine lv_aload_n hx hb dX10_parted_96 rfl (lv_at hl 0 rfl) ?_
          refine zget (v := .ref (a0 14)) hx hb hown hT hK hP inX10 rfl smX10 0 rfl 14 (by decide) tb_445 rfl dX10_parted_97 ?_
          refine zget (v := .int (zI z10 6)) hx hb hown hT hK hP inX5 rfl smX5 1 rfl 6 (by decide) tb_346 rfl dX10_parted_100 ?_
          cases hf
          exact zewi hx hb hr hk hK hP hD hS dX10_parted_103
        · have hf := zif_f hw120 hf
          by_cases hw121 : v2 = 1
          · have hf := zif_t hw121 hf
            refine lv_tableIn (off := 39) (tgt := 104) hx hb dX10_parted_65 (by rw [hw121]; decide) (by rw [hw121]; decide) (by rw [hw121]; decide) (by decide) ?_
            refine lv_aload_n hx hb dX10_parted_104 rfl (lv_at hl 0 rfl) ?_
            refine zget (v := .ref (a0 14)) hx hb hown hT hK hP inX10 rfl smX10 0 rfl 14 (by decide) tb_445 rfl dX10_parted_105 ?_
            refine zget (v := .int (zI z10 7)) hx hb hown hT hK hP inX5 rfl smX5 1 rfl 7 (by decide) tb_348 rfl dX10_parted_108 ?_
            cases hf
            exact zewi hx hb hr hk hK hP hD hS dX10_parted_111
          · have hf := zif_f hw121 hf
            by_cases hw122 : v2 = 2
            · have hf := zif_t hw122 hf
              refine lv_tableIn (off := 47) (tgt := 112) hx hb dX10_parted_65 (by rw [hw122]; decide) (by rw [hw122]; decide) (by rw [hw122]; decide) (by decide) ?_
              refine lv_aload_n hx hb dX10_parted_112 rfl (lv_at hl 0 rfl) ?_
              refine zget (v := .ref (a0 14)) hx hb hown hT hK hP inX10 rfl smX10 0 rfl 14 (by decide) tb_445 rfl dX10_parted_113 ?_
              refine zget (v := .int (zI z10 8)) hx hb hown hT hK hP inX5 rfl smX5 1 rfl 8 (by decide) tb_350 rfl dX10_parted_116 ?_
              cases hf
              exact zewi hx hb hr hk hK hP hD hS dX10_parted_119
            · have hf := zif_f hw122 hf
              by_cases hw123 : v2 = 3
              · have hf := zif_t hw123 hf
                refine lv_tableIn (off := 55) (tgt := 120) hx hb dX10_parted_65 (by rw [hw123]; decide) (by rw [hw123]; decide) (by rw [hw123]; decide) (by decide) ?_
                refine lv_aload_n hx hb dX10_parted_120 rfl (lv_at hl 0 rfl) ?_
                refine zget (v := .ref (a0 14)) hx hb hown hT hK hP inX10 rfl smX10 0 rfl 14 (by decide) tb_445 rfl dX10_parted_121 ?_
                refine zget (v := .int (zI z10 9)) hx hb hown hT hK hP inX5 rfl smX5 1 rfl 9 (by decide) tb_352 rfl dX10_parted_124 ?_
                cases hf
                exact zewi hx hb hr hk hK hP hD hS dX10_parted_127
              · have hf := zif_f hw123 hf
                refine lv_tableOut (tgt := 128) hx hb dX10_parted_65 (zsw 3 (by decide) (fun k hk => ?_)) (by decide) ?_
                · rcases (show k = 0 ∨ k = 1 ∨ k = 2 ∨ k = 3 by omega) with rfl | rfl | rfl | rfl
                  · exact hw120
                  · exact hw121
                  · exact hw122
                  · exact hw123
                · refine lv_aload_n hx hb dX10_parted_128 rfl (lv_at hl 0 rfl) ?_
                  refine zget (v := .ref (a0 14)) hx hb hown hT hK hP inX10 rfl smX10 0 rfl 14 (by decide) tb_445 rfl dX10_parted_129 ?_
                  refine zget (v := .int (zI z10 10)) hx hb hown hT hK hP inX5 rfl smX5 1 rfl 10 (by decide) tb_354 rfl dX10_parted_132 ?_
                  cases hf
                  exact zewi hx hb hr hk hK hP hD hS dX10_parted_135
      · have hf := zif_t hb_7 hf
        refine lv_bipush (v := (-2)) hx hb dX10_parted_26 (by decide) ?_
        cases hf
        exact zewi hx hb hr hk hK hP hD hS dX10_parted_28
set_option maxHeartbeats 4000000 in
set_option maxRecDepth 100000 in
theorem c_CH_parted {l : Launch} {dC : Nat → ClassId} {dI : Nat → Nat → Nat} {cy : Nat → ClassId} {sz : Nat} {N : Nat} (o0 : Nat) (a0 : Nat → Nat) (s0 : zSt) (a1 : Nat → Nat) (s1 : zSt) (a2 : Nat → Nat) (s2 : zSt) (a3 : Nat → Nat) (s3 : zSt) (a4 : Nat → Nat) (s4 : zSt) (v1 : Int32) (v2 : Int32) (v3 : Int32) {y : Int32 × zSt × zSt} (hf : CH_parted N s0 s1 s2 s3 s4 v1 v2 v3 = some y) : Met l yX10_parted (.code yX10_parted cX10_parted 4 (some .int) :: zt) rm_CH_parted (va_Pc [.ref o0, .int v1, .int v2, .int v3] (zPre (dC, dI) cy (wd_CH_parted cy o0 a0 (zI s0) (zL s0) a1 (zI s1) (zL s1) a2 (zI s2) (zL s2) (zA s2 1) (zA s2 3) (zA s2 4) (zA s2 5) a3 (zI s3) (zL s3) (zA s3 1) (zA s3 2) (zA s3 3) (zA s3 4) (zA s3 5) (zA s3 6) (zA s3 7) a4 (zI s4) (zL s4) (zA s4 2) (zA s4 5) (zA s4 6) (zA s4 14)) sz)) (zQi y.1 (dC, dI) cy (wd_CH_parted cy o0 a0 (zI s0) (zL s0) a1 (zI y.2.1) (zL y.2.1) a2 (zI y.2.2) (zL y.2.2) (zA y.2.2 1) (zA y.2.2 3) (zA y.2.2 4) (zA y.2.2 5) a3 (zI s3) (zL s3) (zA s3 1) (zA s3 2) (zA s3 3) (zA s3 4) (zA s3 5) (zA s3 6) (zA s3 7) a4 (zI s4) (zL s4) (zA s4 2) (zA s4 5) (zA s4 6) (zA s4 14)) (va_A (wd_CH_parted cy o0 a0 (zI s0) (zL s0) a1 (zI s1) (zL s1) a2 (zI s2) (zL s2) (zA s2 1) (zA s2 3) (zA s2 4) (zA s2 5) a3 (zI s3) (zL s3) (zA s3 1) (zA s3 2) (zA s3 3) (zA s3 4) (zA s3 5) (zA s3 6) (zA s3 7) a4 (zI s4) (zL s4) (zA s4 2) (zA s4 5) (zA s4 6) (zA s4 14)) sz)) 0 0 (va_A (wd_CH_parted cy o0 a0 (zI s0) (zL s0) a1 (zI s1) (zL s1) a2 (zI s2) (zL s2) (zA s2 1) (zA s2 3) (zA s2 4) (zA s2 5) a3 (zI s3) (zL s3) (zA s3 1) (zA s3 2) (zA s3 3) (zA s3 4) (zA s3 5) (zA s3 6) (zA s3 7) a4 (zI s4) (zL s4) (zA s4 2) (zA s4 5) (zA s4 6) (zA s4 14)) sz) :=
  zentW (Qw := fun A => (zQi y.1 (dC, dI) cy (wd_CH_parted cy o0 a0 (zI s0) (zL s0) a1 (zI y.2.1) (zL y.2.1) a2 (zI y.2.2) (zL y.2.2) (zA y.2.2 1) (zA y.2.2 3) (zA y.2.2 4) (zA y.2.2 5) a3 (zI s3) (zL s3) (zA s3 1) (zA s3 2) (zA s3 3) (zA s3 4) (zA s3 5) (zA s3 6) (zA s3 7) a4 (zI s4) (zL s4) (zA s4 2) (zA s4 5) (zA s4 6) (zA s4 14)) A)) (by decide +kernel) (Nat.le_of_ble_eq_true rfl) (fun p e s m below meth c A C0 hA hP hD hS ls hl => k_CH_parted_b0 C0 s0 s1 s2 s3 s4 v1 v2 v3 hA hP hD hS hf ls hl)
def wd_CH_isSoWith (cy : Nat → ClassId) (o0 : Nat) (a0 : Nat → Nat) (g0 : Nat → Int32) (h0 : Nat → Int64) (a1 : Nat → Nat) (g1 : Nat → Int32) (h1 : Nat → Int64) (x1_2 : Nat → Int32) (x1_3 : Nat → Int32) (x1_4 : Nat → Int32) (x1_5 : Nat → Int32) (a2 : Nat → Nat) (g2 : Nat → Int32) (h2 : Nat → Int64) (x2_5 : Nat → Int32) (x2_6 : Nat → Int32) (x2_14 : Nat → Int32) : va_W := [(o0, .inr (10, fs_CH a0 g0 h0)), ((a0 8), .inr (4, fs_Entries a1 g1 h1)), (a1 2, .inl (cy 0, 40, .inl x1_2)), (a1 3, .inl (cy 0, 40, .inl x1_3)), (a1 4, .inl (cy 0, 40, .inl x1_4)), (a1 5, .inl (cy 0, 40, .inl x1_5)), ((a0 3), .inr (9, fs_Valley a2 g2 h2)), (a2 5, .inl (cy 0, 11, .inl x2_5)), (a2 6, .inl (cy 0, 11, .inl x2_6)), (a2 14, .inl (cy 0, 4, .inl x2_14))]
def rm_CH_isSoWith : Room := { frames := 4, cells := 0, slots := 0, locals := 113 }
theorem rm_ok_CH_isSoWith_CH_within : rm_CH_within.cells = 0 ∧ rm_CH_within.slots = 0 ∧ rm_CH_within.frames + 1 ≤ rm_CH_isSoWith.frames ∧ 8 + (3 + 11) + rm_CH_within.locals ≤ rm_CH_isSoWith.locals := by decide
theorem rm_ok_CH_isSoWith_Valley_loudness : rm_Valley_loudness.cells = 0 ∧ rm_Valley_loudness.slots = 0 ∧ rm_Valley_loudness.frames + 1 ≤ rm_CH_isSoWith.frames ∧ 8 + (8 + 11) + rm_Valley_loudness.locals ≤ rm_CH_isSoWith.locals := by decide
set_option maxHeartbeats 4000000 in
set_option maxRecDepth 100000 in
theorem k_CH_isSoWith_b0 {p : Program} {l : Launch} {e : Env} {s : State} {m : MethodId} {args : Array Value} {below : List Frame} {meth : Method} {c : Code} {dC : Nat → ClassId} {dI : Nat → Nat → Nat} {cy : Nat → ClassId} {o0 : Nat} {a0 : Nat → Nat} {a1 : Nat → Nat} {a2 : Nat → Nat} {N : Nat} {y : Int32} (C0 : zCx p s m args meth c cX10_isSoWith 6 (some .boolean) RX10 (dC, dI) cy) (s0 : zSt) (s1 : zSt) (s2 : zSt) (v1 : Int32) (v2 : Int32) (v3 : Int32) (v4 : Int32) (hP : va_P (dC, dI) vwCl (wd_CH_isSoWith cy o0 a0 (zI s0) (zL s0) a1 (zI s1) (zL s1) (zA s1 2) (zA s1 3) (zA s1 4) (zA s1 5) a2 (zI s2) (zL s2) (zA s2 5) (zA s2 6) (zA s2 14)) s.heap) (hf : CH_isSoWith_b0 N s0 s1 s2 v1 v2 v3 v4 = some y) (ls : Array Slot) (hl : lv_has ls 6 [(0, .ref o0), (1, .int v1), (2, .int v2), (3, .int v3), (4, .int v4)]) : W p l e rm_CH_isSoWith s m args below meth c s.heap [] 0 0 (MQ below (zSi y) args s 0 0 (fun _ => False)) (F0 m 0 ls []) := by
  obtain ⟨hx, hb, hr, hml, hown, hT, hk, hK⟩ := id C0
  refine lv_aload_n hx hb dX10_isSoWith_0 rfl (lv_at hl 0 rfl) ?_
  refine zget (v := .ref (a0 3)) hx hb hown hT hK hP inX10 rfl smX10 0 rfl 3 (by decide) tb_434 rfl dX10_isSoWith_1 ?_
  refine lv_iload_n hx hb dX10_isSoWith_4 rfl (lv_at hl 1 rfl) ?_
  refine lv_aload_n hx hb dX10_isSoWith_5 rfl (lv_at hl 0 rfl) ?_
  refine zget (v := .ref (a0 8)) hx hb hown hT hK hP inX10 rfl smX10 0 rfl 8 (by decide) tb_439 rfl dX10_isSoWith_6 ?_
  refine zget (v := .ref (a1 3)) hx hb hown hT hK hP inX4 rfl smX4 1 rfl 3 (by decide) tb_219 rfl dX10_isSoWith_9 ?_
  refine lv_iload_n hx hb dX10_isSoWith_12 rfl (lv_at hl 2 rfl) ?_
  obtain ⟨hi1, hf⟩ := zck_some hf
  refine va_iald hx hb hK.1 hP 3 0 rfl rfl hi1 dX10_isSoWith_13 ?_
  refine lv_aload_n hx hb dX10_isSoWith_14 rfl (lv_at hl 0 rfl) ?_
  refine zget (v := .ref (a0 8)) hx hb hown hT hK hP inX10 rfl smX10 0 rfl 8 (by decide) tb_439 rfl dX10_isSoWith_15 ?_
  refine zget (v := .ref (a1 2)) hx hb hown hT hK hP inX4 rfl smX4 1 rfl 2 (by decide) tb_215 rfl dX10_isSoWith_18 ?_
  refine lv_iload_n hx hb dX10_isSoWith_21 rfl (lv_at hl 2 rfl) ?_
  obtain ⟨hi2, hf⟩ := zck_some hf
  refine va_iald hx hb hK.1 hP 2 0 rfl rfl hi2 dX10_isSoWith_22 ?_
  refine lv_iload_n hx hb dX10_isSoWith_23 rfl (lv_at hl 3 rfl) ?_
  refine lv_iload hx hb dX10_isSoWith_24 (lv_at hl 4 rfl) ?_
  obtain ⟨z3, hc4, hf⟩ := zbd_some hf
  refine zri (zV (As := [.int v1, .int ((zA s1 3) (Int32.toNatClampNeg v2)), .int ((zA s1 2) (Int32.toNatClampNeg v2)), .int v3, .int v4]) hx hb hml hown hT hl.1 (c_Valley_loudness (a0 3) a2 s2 v1 ((zA s1 3) (Int32.toNatClampNeg v2)) ((zA s1 2) (Int32.toNatClampNeg v2)) v3 v4 hc4) zY_Valley_loudness tb_879 (zpR hK hP [6, 7, 8, 9] rfl 0 9 rfl rfl rfl) rm_ok_CH_isSoWith_Valley_loudness rfl rfl (Nat.le_of_ble_eq_true rfl) dX10_isSoWith_26 ⟨Nat.zero_le _, Nat.zero_le _⟩) ?_
  refine lv_istore (lv' := [(5, .int z3), (0, .ref o0), (1, .int v1), (2, .int v2), (3, .int v3), (4, .int v4)]) hx hb dX10_isSoWith_29 hl (by decide) rfl (fun ls hl => ?_)
  refine lv_iload hx hb dX10_isSoWith_31 (lv_at hl 0 rfl) ?_
  refine lv_aload_n hx hb dX10_isSoWith_33 rfl (lv_at hl 1 rfl) ?_
  refine zget (v := .ref (a0 8)) hx hb hown hT hK hP inX10 rfl smX10 0 rfl 8 (by decide) tb_439 rfl dX10_isSoWith_34 ?_
  refine zget (v := .ref (a1 4)) hx hb hown hT hK hP inX4 rfl smX4 1 rfl 4 (by decide) tb_222 rfl dX10_isSoWith_37 ?_
  refine lv_iload_n hx hb dX10_isSoWith_40 rfl (lv_at hl 3 rfl) ?_
  obtain ⟨hi5, hf⟩ := zck_some hf
  refine va_iald hx hb hK.1 hP 4 0 rfl rfl hi5 dX10_isSoWith_41 ?_
  refine lv_aload_n hx hb dX10_isSoWith_42 rfl (lv_at hl 1 rfl) ?_
  refine zget (v := .ref (a0 8)) hx hb hown hT hK hP inX10 rfl smX10 0 rfl 8 (by decide) tb_439 rfl dX10_isSoWith_43 ?_
  refine zget (v := .ref (a1 5)) hx hb hown hT hK hP inX4 rfl smX4 1 rfl 5 (by decide) tb_225 rfl dX10_isSoWith_46 ?_
  refine lv_iload_n hx hb dX10_isSoWith_49 rfl (lv_at hl 3 rfl) ?_
  obtain ⟨hi6, hf⟩ := zck_some hf
  refine va_iald hx hb hK.1 hP 5 0 rfl rfl hi6 dX10_isSoWith_50 ?_
  obtain ⟨z7, hc8, hf⟩ := zbd_some hf
  refine zri (zS (As := [.int z3, .int ((zA s1 4) (Int32.toNatClampNeg v2)), .int ((zA s1 5) (Int32.toNatClampNeg v2))]) hx hb hml hown hT hl.1 (c_CH_within z3 ((zA s1 4) (Int32.toNatClampNeg v2)) ((zA s1 5) (Int32.toNatClampNeg v2)) hc8) zY_CH_within tb_495 (zpS hK hP [] rfl) rm_ok_CH_isSoWith_CH_within rfl rfl (Nat.le_of_ble_eq_true rfl) dX10_isSoWith_51 ⟨Nat.zero_le _, Nat.zero_le _⟩) ?_
  obtain ⟨hq9, hf⟩ := zcb_some hf
  cases hf
  exact zerz hx hb hr hk hq9 dX10_isSoWith_54
set_option maxHeartbeats 4000000 in
set_option maxRecDepth 100000 in
theorem c_CH_isSoWith {l : Launch} {dC : Nat → ClassId} {dI : Nat → Nat → Nat} {cy : Nat → ClassId} {N : Nat} (o0 : Nat) (a0 : Nat → Nat) (s0 : zSt) (a1 : Nat → Nat) (s1 : zSt) (a2 : Nat → Nat) (s2 : zSt) (v1 : Int32) (v2 : Int32) (v3 : Int32) (v4 : Int32) {y : Int32} (hf : CH_isSoWith N s0 s1 s2 v1 v2 v3 v4 = some y) : Met l yX10_isSoWith (.code yX10_isSoWith cX10_isSoWith 6 (some .boolean) :: zt) rm_CH_isSoWith (va_Pc [.ref o0, .int v1, .int v2, .int v3, .int v4] (zRd (dC, dI) cy (wd_CH_isSoWith cy o0 a0 (zI s0) (zL s0) a1 (zI s1) (zL s1) (zA s1 2) (zA s1 3) (zA s1 4) (zA s1 5) a2 (zI s2) (zL s2) (zA s2 5) (zA s2 6) (zA s2 14)))) (zSi y) 0 0 (fun _ => False) :=
  zentR (by decide +kernel) (Nat.le_of_ble_eq_true rfl) (fun p e s m below meth c C0 hP ls hl => k_CH_isSoWith_b0 C0 s0 s1 s2 v1 v2 v3 v4 hP hf ls hl)
def wd_CH_came (cy : Nat → ClassId) (o0 : Nat) (a0 : Nat → Nat) (g0 : Nat → Int32) (h0 : Nat → Int64) (a1 : Nat → Nat) (g1 : Nat → Int32) (h1 : Nat → Int64) (x1_5 : Nat → Int32) (x1_6 : Nat → Int32) (x1_7 : Nat → Int32) (x1_14 : Nat → Int32) (a2 : Nat → Nat) (g2 : Nat → Int32) (h2 : Nat → Int64) (x2_1 : Nat → Int32) (x2_2 : Nat → Int32) (x2_3 : Nat → Int32) (x2_4 : Nat → Int32) (x2_5 : Nat → Int32) (x2_6 : Nat → Int32) (x2_7 : Nat → Int32) : va_W := [(o0, .inr (10, fs_CH a0 g0 h0)), ((a0 3), .inr (9, fs_Valley a1 g1 h1)), (a1 5, .inl (cy 0, 11, .inl x1_5)), (a1 6, .inl (cy 0, 11, .inl x1_6)), (a1 7, .inl (cy 0, 11, .inl x1_7)), (a1 14, .inl (cy 0, 4, .inl x1_14)), ((a0 8), .inr (4, fs_Entries a2 g2 h2)), (a2 1, .inl (cy 0, 40, .inl x2_1)), (a2 2, .inl (cy 0, 40, .inl x2_2)), (a2 3, .inl (cy 0, 40, .inl x2_3)), (a2 4, .inl (cy 0, 40, .inl x2_4)), (a2 5, .inl (cy 0, 40, .inl x2_5)), (a2 6, .inl (cy 0, 40, .inl x2_6)), (a2 7, .inl (cy 0, 40, .inl x2_7))]
def rm_CH_came : Room := { frames := 5, cells := 0, slots := 0, locals := 138 }
theorem rm_ok_CH_came_CH_isPlace : rm_CH_isPlace.cells = 0 ∧ rm_CH_isPlace.slots = 0 ∧ rm_CH_isPlace.frames + 1 ≤ rm_CH_came.frames ∧ 8 + (1 + 11) + rm_CH_isPlace.locals ≤ rm_CH_came.locals := by decide
theorem rm_ok_CH_came_CH_isSoWith : rm_CH_isSoWith.cells = 0 ∧ rm_CH_isSoWith.slots = 0 ∧ rm_CH_isSoWith.frames + 1 ≤ rm_CH_came.frames ∧ 8 + (6 + 11) + rm_CH_isSoWith.locals ≤ rm_CH_came.locals := by decide
theorem rm_ok_CH_came_CH_isWind : rm_CH_isWind.cells = 0 ∧ rm_CH_isWind.slots = 0 ∧ rm_CH_isWind.frames + 1 ≤ rm_CH_came.frames ∧ 8 + (1 + 11) + rm_CH_isWind.locals ≤ rm_CH_came.locals := by decide
theorem rm_ok_CH_came_CH_within : rm_CH_within.cells = 0 ∧ rm_CH_within.slots = 0 ∧ rm_CH_within.frames + 1 ≤ rm_CH_came.frames ∧ 8 + (3 + 11) + rm_CH_within.locals ≤ rm_CH_came.locals := by decide
theorem rm_ok_CH_came_Entries_counts : rm_Entries_counts.cells = 0 ∧ rm_Entries_counts.slots = 0 ∧ rm_Entries_counts.frames + 1 ≤ rm_CH_came.frames ∧ 8 + (3 + 11) + rm_Entries_counts.locals ≤ rm_CH_came.locals := by decide
theorem rm_ok_CH_came_Entries_isSound : rm_Entries_isSound.cells = 0 ∧ rm_Entries_isSound.slots = 0 ∧ rm_Entries_isSound.frames + 1 ≤ rm_CH_came.frames ∧ 8 + (2 + 11) + rm_Entries_isSound.locals ≤ rm_CH_came.locals := by decide
theorem rm_ok_CH_came_Math_max : rm_Math_max.cells = 0 ∧ rm_Math_max.slots = 0 ∧ rm_Math_max.frames + 1 ≤ rm_CH_came.frames ∧ 8 + (2 + 11) + rm_Math_max.locals ≤ rm_CH_came.locals := by decide
theorem rm_ok_CH_came_Math_min : rm_Math_min.cells = 0 ∧ rm_Math_min.slots = 0 ∧ rm_Math_min.frames + 1 ≤ rm_CH_came.frames ∧ 8 + (2 + 11) + rm_Math_min.locals ≤ rm_CH_came.locals := by decide
theorem rm_ok_CH_came_Valley_hasBell : rm_Valley_hasBell.cells = 0 ∧ rm_Valley_hasBell.slots = 0 ∧ rm_Valley_hasBell.frames + 1 ≤ rm_CH_came.frames ∧ 8 + (2 + 11) + rm_Valley_hasBell.locals ≤ rm_CH_came.locals := by decide
set_option maxHeartbeats 4000000 in
set_option maxRecDepth 100000 in
theorem k_CH_came_b178 {p : Program} {l : Launch} {e : Env} {s : State} {m : MethodId} {args : Array Value} {below : List Frame} {meth : Method} {c : Code} {dC : Nat → ClassId} {dI : Nat → Nat → Nat} {cy : Nat → ClassId} {o0 : Nat} {a0 : Nat → Nat} {a1 : Nat → Nat} {a2 : Nat → Nat} {N : Nat} {kh64 : Int32 → Int32 → Int32 → Option (Int32)} {y : Int32} (C0 : zCx p s m args meth c cX10_came 9 (some .int) RX10 (dC, dI) cy) (s0 : zSt) (s1 : zSt) (s2 : zSt) (v1 : Int32) (v2 : Int32) (v3 : Int32) (v4 : Int32) (v5 : Int32) (v6 : Int32) (v7 : Int32) (v8 : Int32) (hk64 : ∀ (v6 : Int32) (v7 : Int32) (v8 : Int32) (_ : kh64 v6 v7 v8 = some y) (ls : Array Slot) (_ : lv_has ls 9 [(0, .ref o0), (1, .int v1), (2, .int v2), (3, .int v3), (4, .int v4), (5, .int v5), (6, .int v6), (7, .int v7), (8, .int v8)]), W p l e rm_CH_came s m args below meth c s.heap [] 0 0 (MQ below (zSi y) args s 0 0 (fun _ => False)) (F0 m 64 ls [])) (hP : va_P (dC, dI) vwCl (wd_CH_came cy o0 a0 (zI s0) (zL s0) a1 (zI s1) (zL s1) (zA s1 5) (zA s1 6) (zA s1 7) (zA s1 14) a2 (zI s2) (zL s2) (zA s2 1) (zA s2 2) (zA s2 3) (zA s2 4) (zA s2 5) (zA s2 6) (zA s2 7)) s.heap) (hf : CH_came_b178 N kh64 s0 s1 s2 v1 v2 v3 v4 v5 v6 v7 v8 = some y) (ls : Array Slot) (hl : lv_has ls 9 [(0, .ref o0), (1, .int v1), (2, .int v2), (3, .int v3), (4, .int v4), (5, .int v5), (6, .int v6), (7, .int v7), (8, .int v8)]) : W p l e rm_CH_came s m args below meth c s.heap [] 0 0 (MQ below (zSi y) args s 0 0 (fun _ => False)) (F0 m 178 ls []) := by
  obtain ⟨hx, hb, hr, hml, hown, hT, hk, hK⟩ := id C0
  refine lv_iinc (v := v8 + 1) (lv' := [(8, .int (v8 + 1)), (0, .ref o0), (1, .int v1), (2, .int v2), (3, .int v3), (4, .int v4), (5, .int v5), (6, .int v6), (7, .int v7)]) hx hb dX10_came_178 hl (k := 8) rfl rfl (by decide) rfl (fun ls hl => ?_)
  refine lv_goto (tgt := 64) hx hb dX10_came_181 (by decide) ?_
  exact hk64 v6 v7 (v8 + 1) hf _ (lv_sub hl [1, 2, 3, 4, 5, 6, 7, 8, 0] rfl)
set_option maxHeartbeats 4000000 in
set_option maxRecDepth 100000 in
theorem k_CH_came_b143 {p : Program} {l : Launch} {e : Env} {s : State} {m : MethodId} {args : Array Value} {below : List Frame} {meth : Method} {c : Code} {dC : Nat → ClassId} {dI : Nat → Nat → Nat} {cy : Nat → ClassId} {o0 : Nat} {a0 : Nat → Nat} {a1 : Nat → Nat} {a2 : Nat → Nat} {N : Nat} {kh64 : Int32 → Int32 → Int32 → Option (Int32)} {y : Int32} (C0 : zCx p s m args meth c cX10_came 9 (some .int) RX10 (dC, dI) cy) (s0 : zSt) (s1 : zSt) (s2 : zSt) (v1 : Int32) (v2 : Int32) (v3 : Int32) (v4 : Int32) (v5 : Int32) (v6 : Int32) (v7 : Int32) (v8 : Int32) (hk64 : ∀ (v6 : Int32) (v7 : Int32) (v8 : Int32) (_ : kh64 v6 v7 v8 = some y) (ls : Array Slot) (_ : lv_has ls 9 [(0, .ref o0), (1, .int v1), (2, .int v2), (3, .int v3), (4, .int v4), (5, .int v5), (6, .int v6), (7, .int v7), (8, .int v8)]), W p l e rm_CH_came s m args below meth c s.heap [] 0 0 (MQ below (zSi y) args s 0 0 (fun _ => False)) (F0 m 64 ls [])) (hP : va_P (dC, dI) vwCl (wd_CH_came cy o0 a0 (zI s0) (zL s0) a1 (zI s1) (zL s1) (zA s1 5) (zA s1 6) (zA s1 7) (zA s1 14) a2 (zI s2) (zL s2) (zA s2 1) (zA s2 2) (zA s2 3) (zA s2 4) (zA s2 5) (zA s2 6) (zA s2 7)) s.heap) (hf : CH_came_b143 N kh64 s0 s1 s2 v1 v2 v3 v4 v5 v6 v7 v8 = some y) (ls : Array Slot) (hl : lv_has ls 9 [(0, .ref o0), (1, .int v1), (2, .int v2), (3, .int v3), (4, .int v4), (5, .int v5), (6, .int v6), (7, .int v7), (8, .int v8)]) : W p l e rm_CH_came s m args below meth c s.heap [] 0 0 (MQ below (zSi y) args s 0 0 (fun _ => False)) (F0 m 143 ls []) := by
  obtain ⟨hx, hb, hr, hml, hown, hT, hk, hK⟩ := id C0
  refine lv_aload_n hx hb dX10_came_143 rfl (lv_at hl 0 rfl) ?_
  refine lv_aload_n hx hb dX10_came_144 rfl (lv_at hl 0 rfl) ?_
  refine zget (v := .ref (a0 3)) hx hb hown hT hK hP inX10 rfl smX10 0 rfl 3 (by decide) tb_434 rfl dX10_came_145 ?_
  refine zget (v := .int (zI s1 8)) hx hb hown hT hK hP inX9 rfl smX9 1 rfl 8 (by decide) tb_122 rfl dX10_came_148 ?_
  refine lv_iload hx hb dX10_came_151 (lv_at hl 8 rfl) ?_
  refine lv_iload_n hx hb dX10_came_153 rfl (lv_at hl 2 rfl) ?_
  refine lv_iload_n hx hb dX10_came_154 rfl (lv_at hl 3 rfl) ?_
  obtain ⟨z1, hc2, hf⟩ := zbd_some hf
  refine zri (zV (As := [.int (zI s1 8), .int v8, .int v2, .int v3]) hx hb hml hown hT hl.1 (c_CH_isSoWith o0 a0 s0 a2 s2 a1 s1 (zI s1 8) v8 v2 v3 hc2) zY_CH_isSoWith tb_875 (zpR hK hP [0, 6, 8, 9, 10, 11, 1, 2, 3, 5] rfl 0 10 rfl rfl rfl) rm_ok_CH_came_CH_isSoWith rfl rfl (Nat.le_of_ble_eq_true rfl) dX10_came_155 ⟨Nat.zero_le _, Nat.zero_le _⟩) ?_
  refine lv_if_ne (tgt := 178) hx hb dX10_came_158 (by decide) (fun hb_3 => ?_) (fun hb_3 => ?_)
  · have hf := zif_f hb_3 hf
    exact k_CH_came_b178 C0 s0 s1 s2 v1 v2 v3 v4 v5 v6 v7 v8 hk64 hP hf _ (lv_sub hl [0, 1, 2, 3, 4, 5, 6, 7, 8] rfl)
  · have hf := zif_t hb_3 hf
    refine lv_iload hx hb dX10_came_161 (lv_at hl 7 rfl) ?_
    refine lv_aload_n hx hb dX10_came_163 rfl (lv_at hl 0 rfl) ?_
    refine zget (v := .ref (a0 8)) hx hb hown hT hK hP inX10 rfl smX10 0 rfl 8 (by decide) tb_439 rfl dX10_came_164 ?_
    refine zget (v := .ref (a2 1)) hx hb hown hT hK hP inX4 rfl smX4 6 rfl 1 (by decide) tb_212 rfl dX10_came_167 ?_
    refine lv_iload hx hb dX10_came_170 (lv_at hl 8 rfl) ?_
    obtain ⟨hi4, hf⟩ := zck_some hf
    refine va_iald hx hb hK.1 hP 7 0 rfl rfl hi4 dX10_came_172 ?_
    obtain ⟨z5, hc6, hf⟩ := zbd_some hf
    refine zri (zS (As := [.int v7, .int ((zA s2 1) (Int32.toNatClampNeg v8))]) hx hb hml hown hT hl.1 (c_Math_min v7 ((zA s2 1) (Int32.toNatClampNeg v8)) hc6) zY_Math_min tb_880 (zpS hK hP [] rfl) rm_ok_CH_came_Math_min rfl rfl (Nat.le_of_ble_eq_true rfl) dX10_came_173 ⟨Nat.zero_le _, Nat.zero_le _⟩) ?_
    refine lv_istore (lv' := [(7, .int z5), (0, .ref o0), (1, .int v1), (2, .int v2), (3, .int v3), (4, .int v4), (5, .int v5), (6, .int v6), (8, .int v8)]) hx hb dX10_came_176 hl (by decide) rfl (fun ls hl => ?_)
    exact k_CH_came_b178 C0 s0 s1 s2 v1 v2 v3 v4 v5 v6 z5 v8 hk64 hP hf _ (lv_sub hl [1, 2, 3, 4, 5, 6, 7, 0, 8] rfl)
set_option maxHeartbeats 4000000 in
set_option maxRecDepth 100000 in
theorem k_CH_came_b64 {p : Program} {l : Launch} {e : Env} {s : State} {m : MethodId} {args : Array Value} {below : List Frame} {meth : Method} {c : Code} {dC : Nat → ClassId} {dI : Nat → Nat → Nat} {cy : Nat → ClassId} {o0 : Nat} {a0 : Nat → Nat} {a1 : Nat → Nat} {a2 : Nat → Nat} {N : Nat} {kh64 : Int32 → Int32 → Int32 → Option (Int32)} {y : Int32} (C0 : zCx p s m args meth c cX10_came 9 (some .int) RX10 (dC, dI) cy) (s0 : zSt) (s1 : zSt) (s2 : zSt) (v1 : Int32) (v2 : Int32) (v3 : Int32) (v4 : Int32) (v5 : Int32) (v6 : Int32) (v7 : Int32) (v8 : Int32) (hk64 : ∀ (v6 : Int32) (v7 : Int32) (v8 : Int32) (_ : kh64 v6 v7 v8 = some y) (ls : Array Slot) (_ : lv_has ls 9 [(0, .ref o0), (1, .int v1), (2, .int v2), (3, .int v3), (4, .int v4), (5, .int v5), (6, .int v6), (7, .int v7), (8, .int v8)]), W p l e rm_CH_came s m args below meth c s.heap [] 0 0 (MQ below (zSi y) args s 0 0 (fun _ => False)) (F0 m 64 ls [])) (hP : va_P (dC, dI) vwCl (wd_CH_came cy o0 a0 (zI s0) (zL s0) a1 (zI s1) (zL s1) (zA s1 5) (zA s1 6) (zA s1 7) (zA s1 14) a2 (zI s2) (zL s2) (zA s2 1) (zA s2 2) (zA s2 3) (zA s2 4) (zA s2 5) (zA s2 6) (zA s2 7)) s.heap) (hf : CH_came_b64 N kh64 s0 s1 s2 v1 v2 v3 v4 v5 v6 v7 v8 = some y) (ls : Array Slot) (hl : lv_has ls 9 [(0, .ref o0), (1, .int v1), (2, .int v2), (3, .int v3), (4, .int v4), (5, .int v5), (6, .int v6), (7, .int v7), (8, .int v8)]) : W p l e rm_CH_came s m args below meth c s.heap [] 0 0 (MQ below (zSi y) args s 0 0 (fun _ => False)) (F0 m 64 ls []) := by
  obtain ⟨hx, hb, hr, hml, hown, hT, hk, hK⟩ := id C0
  refine lv_iload hx hb dX10_came_64 (lv_at hl 8 rfl) ?_
  refine lv_aload_n hx hb dX10_came_66 rfl (lv_at hl 0 rfl) ?_
  refine zget (v := .ref (a0 8)) hx hb hown hT hK hP inX10 rfl smX10 0 rfl 8 (by decide) tb_439 rfl dX10_came_67 ?_
  refine zget (v := .int (zI s2 0)) hx hb hown hT hK hP inX4 rfl smX4 6 rfl 0 (by decide) tb_208 rfl dX10_came_70 ?_
  refine lv_icmp_ge (tgt := 184) hx hb dX10_came_73 (by decide) (fun hb_1 => ?_) (fun hb_1 => ?_)
  · have hf := zif_t hb_1 hf
    refine lv_iload hx hb dX10_came_184 (lv_at hl 6 rfl) ?_
    refine lv_iload hx hb dX10_came_186 (lv_at hl 7 rfl) ?_
    refine lv_icmp_le (tgt := 202) hx hb dX10_came_188 (by decide) (fun hb_2 => ?_) (fun hb_2 => ?_)
    · have hf := zif_t hb_2 hf
      refine lv_iload hx hb dX10_came_202 (lv_at hl 4 rfl) ?_
      by_cases hw30 : v4 = 0
      · have hf := zif_t hw30 hf
        refine lv_lookup (off := 28) (tgt := 232) hx hb dX10_came_204 (by decide) (by rw [hw30]; decide) (by decide) ?_
        refine lv_iload hx hb dX10_came_232 (lv_at hl 7 rfl) ?_
        refine lv_iload hx hb dX10_came_234 (lv_at hl 6 rfl) ?_
        refine lv_isub hx hb dX10_came_236 ?_
        refine lv_iconst (v := 1) hx hb dX10_came_237 (by decide) ?_
        refine lv_iadd hx hb dX10_came_238 ?_
        cases hf
        exact zeri hx hb hr hk dX10_came_239
      · have hf := zif_f hw30 hf
        by_cases hw31 : v4 = 1
        · have hf := zif_t hw31 hf
          refine lv_lookup (off := 36) (tgt := 240) hx hb dX10_came_204 (by decide) (by rw [hw31]; decide) (by decide) ?_
          refine lv_iload hx hb dX10_came_240 (lv_at hl 6 rfl) ?_
          cases hf
          exact zeri hx hb hr hk dX10_came_242
        · have hf := zif_f hw31 hf
          refine lv_lookup (off := 39) (tgt := 243) hx hb dX10_came_204 (by decide) (zlk2 hw30 hw31) (by decide) ?_
          refine lv_iload hx hb dX10_came_243 (lv_at hl 7 rfl) ?_
          cases hf
          exact zeri hx hb hr hk dX10_came_245
    · have hf := zif_f hb_2 hf
      refine lv_iload hx hb dX10_came_191 (lv_at hl 4 rfl) ?_
      refine lv_if_ne (tgt := 200) hx hb dX10_came_193 (by decide) (fun hb_4 => ?_) (fun hb_4 => ?_)
      · have hf := zif_f hb_4 hf
        refine lv_iconst (v := (-1)) hx hb dX10_came_200 (by decide) ?_
        cases hf
        exact zeri hx hb hr hk dX10_came_201
      · have hf := zif_t hb_4 hf
        refine lv_iconst (v := 0) hx hb dX10_came_196 (by decide) ?_
        refine lv_goto (tgt := 201) hx hb dX10_came_197 (by decide) ?_
        cases hf
        exact zeri hx hb hr hk dX10_came_201
  · have hf := zif_f hb_1 hf
    refine lv_aload_n hx hb dX10_came_76 rfl (lv_at hl 0 rfl) ?_
    refine zget (v := .ref (a0 8)) hx hb hown hT hK hP inX10 rfl smX10 0 rfl 8 (by decide) tb_439 rfl dX10_came_77 ?_
    refine lv_iload hx hb dX10_came_80 (lv_at hl 8 rfl) ?_
    obtain ⟨z5, hc6, hf⟩ := zbd_some hf
    refine zri (zV (As := [.int v8]) hx hb hml hown hT hl.1 (c_Entries_isSound (a0 8) a2 s2 v8 hc6) zY_Entries_isSound tb_873 (zpR hK hP [6, 8] rfl 0 4 rfl rfl rfl) rm_ok_CH_came_Entries_isSound rfl rfl (Nat.le_of_ble_eq_true rfl) dX10_came_82 ⟨Nat.zero_le _, Nat.zero_le _⟩) ?_
    refine lv_if_eq (tgt := 178) hx hb dX10_came_85 (by decide) (fun hb_7 => ?_) (fun hb_7 => ?_)
    · have hf := zif_t hb_7 hf
      exact k_CH_came_b178 C0 s0 s1 s2 v1 v2 v3 v4 v5 v6 v7 v8 hk64 hP hf _ (lv_sub hl [0, 1, 2, 3, 4, 5, 6, 7, 8] rfl)
    · have hf := zif_f hb_7 hf
      refine lv_aload_n hx hb dX10_came_88 rfl (lv_at hl 0 rfl) ?_
      refine zget (v := .ref (a0 8)) hx hb hown hT hK hP inX10 rfl smX10 0 rfl 8 (by decide) tb_439 rfl dX10_came_89 ?_
      refine lv_iload hx hb dX10_came_92 (lv_at hl 8 rfl) ?_
      refine lv_iload hx hb dX10_came_94 (lv_at hl 5 rfl) ?_
      obtain ⟨z8, hc9, hf⟩ := zbd_some hf
      refine zri (zV (As := [.int v8, .int v5]) hx hb hml hown hT hl.1 (c_Entries_counts (a0 8) a2 s2 v8 v5 hc9) zY_Entries_counts tb_874 (zpR hK hP [6, 12, 13] rfl 0 4 rfl rfl rfl) rm_ok_CH_came_Entries_counts rfl rfl (Nat.le_of_ble_eq_true rfl) dX10_came_96 ⟨Nat.zero_le _, Nat.zero_le _⟩) ?_
      refine lv_if_eq (tgt := 178) hx hb dX10_came_99 (by decide) (fun hb_10 => ?_) (fun hb_10 => ?_)
      · have hf := zif_t hb_10 hf
        exact k_CH_came_b178 C0 s0 s1 s2 v1 v2 v3 v4 v5 v6 v7 v8 hk64 hP hf _ (lv_sub hl [0, 1, 2, 3, 4, 5, 6, 7, 8] rfl)
      · have hf := zif_f hb_10 hf
        refine lv_aload_n hx hb dX10_came_102 rfl (lv_at hl 0 rfl) ?_
        refine lv_aload_n hx hb dX10_came_103 rfl (lv_at hl 0 rfl) ?_
        refine zget (v := .ref (a0 3)) hx hb hown hT hK hP inX10 rfl smX10 0 rfl 3 (by decide) tb_434 rfl dX10_came_104 ?_
        refine zget (v := .int (zI s1 8)) hx hb hown hT hK hP inX9 rfl smX9 1 rfl 8 (by decide) tb_122 rfl dX10_came_107 ?_
        refine lv_iconst (v := 1) hx hb dX10_came_110 (by decide) ?_
        refine lv_iload_n hx hb dX10_came_111 rfl (lv_at hl 1 rfl) ?_
        refine lv_ishl hx hb dX10_came_112 ?_
        refine lv_ior hx hb dX10_came_113 ?_
        refine lv_iload hx hb dX10_came_114 (lv_at hl 8 rfl) ?_
        refine lv_iload_n hx hb dX10_came_116 rfl (lv_at hl 2 rfl) ?_
        refine lv_iload_n hx hb dX10_came_117 rfl (lv_at hl 3 rfl) ?_
        obtain ⟨z11, hc12, hf⟩ := zbd_some hf
        refine zri (zV (As := [.int ((zI s1 8) ||| ((1 : Int32) <<< (v1 &&& 31))), .int v8, .int v2, .int v3]) hx hb hml hown hT hl.1 (c_CH_isSoWith o0 a0 s0 a2 s2 a1 s1 ((zI s1 8) ||| ((1 : Int32) <<< (v1 &&& 31))) v8 v2 v3 hc12) zY_CH_isSoWith tb_875 (zpR hK hP [0, 6, 8, 9, 10, 11, 1, 2, 3, 5] rfl 0 10 rfl rfl rfl) rm_ok_CH_came_CH_isSoWith rfl rfl (Nat.le_of_ble_eq_true rfl) dX10_came_118 ⟨Nat.zero_le _, Nat.zero_le _⟩) ?_
        refine lv_if_ne (tgt := 143) hx hb dX10_came_121 (by decide) (fun hb_13 => ?_) (fun hb_13 => ?_)
        · have hf := zif_f hb_13 hf
          exact k_CH_came_b143 C0 s0 s1 s2 v1 v2 v3 v4 v5 v6 v7 v8 hk64 hP hf _ (lv_sub hl [0, 1, 2, 3, 4, 5, 6, 7, 8] rfl)
        · have hf := zif_t hb_13 hf
          refine lv_iload hx hb dX10_came_124 (lv_at hl 6 rfl) ?_
          refine lv_aload_n hx hb dX10_came_126 rfl (lv_at hl 0 rfl) ?_
          refine zget (v := .ref (a0 8)) hx hb hown hT hK hP inX10 rfl smX10 0 rfl 8 (by decide) tb_439 rfl dX10_came_127 ?_
          refine zget (v := .ref (a2 1)) hx hb hown hT hK hP inX4 rfl smX4 6 rfl 1 (by decide) tb_212 rfl dX10_came_130 ?_
          refine lv_iload hx hb dX10_came_133 (lv_at hl 8 rfl) ?_
          obtain ⟨hi14, hf⟩ := zck_some hf
          refine va_iald hx hb hK.1 hP 7 0 rfl rfl hi14 dX10_came_135 ?_
          refine lv_iconst (v := 1) hx hb dX10_came_136 (by decide) ?_
          refine lv_iadd hx hb dX10_came_137 ?_
          obtain ⟨z15, hc16, hf⟩ := zbd_some hf
          refine zri (zS (As := [.int v6, .int (((zA s2 1) (Int32.toNatClampNeg v8)) + 1)]) hx hb hml hown hT hl.1 (c_Math_max v6 (((zA s2 1) (Int32.toNatClampNeg v8)) + 1) hc16) zY_Math_max tb_747 (zpS hK hP [] rfl) rm_ok_CH_came_Math_max rfl rfl (Nat.le_of_ble_eq_true rfl) dX10_came_138 ⟨Nat.zero_le _, Nat.zero_le _⟩) ?_
          refine lv_istore (lv' := [(6, .int z15), (0, .ref o0), (1, .int v1), (2, .int v2), (3, .int v3), (4, .int v4), (5, .int v5), (7, .int v7), (8, .int v8)]) hx hb dX10_came_141 hl (by decide) rfl (fun ls hl => ?_)
          exact k_CH_came_b143 C0 s0 s1 s2 v1 v2 v3 v4 v5 z15 v7 v8 hk64 hP hf _ (lv_sub hl [1, 2, 3, 4, 5, 6, 0, 7, 8] rfl)
set_option maxHeartbeats 4000000 in
set_option maxRecDepth 100000 in
theorem k_CH_came_h64 {p : Program} {l : Launch} {e : Env} {s : State} {m : MethodId} {args : Array Value} {below : List Frame} {meth : Method} {c : Code} {dC : Nat → ClassId} {dI : Nat → Nat → Nat} {cy : Nat → ClassId} {o0 : Nat} {a0 : Nat → Nat} {a1 : Nat → Nat} {a2 : Nat → Nat} {N : Nat} {y : Int32} (C0 : zCx p s m args meth c cX10_came 9 (some .int) RX10 (dC, dI) cy) (s0 : zSt) (s1 : zSt) (s2 : zSt) (v1 : Int32) (v2 : Int32) (v3 : Int32) (v4 : Int32) (v5 : Int32) (hP : va_P (dC, dI) vwCl (wd_CH_came cy o0 a0 (zI s0) (zL s0) a1 (zI s1) (zL s1) (zA s1 5) (zA s1 6) (zA s1 7) (zA s1 14) a2 (zI s2) (zL s2) (zA s2 1) (zA s2 2) (zA s2 3) (zA s2 4) (zA s2 5) (zA s2 6) (zA s2 7)) s.heap) : ∀ (n : Nat) (v6 : Int32) (v7 : Int32) (v8 : Int32) (hf : CH_came_h64 N s0 s1 s2 v1 v2 v3 v4 v5 n v6 v7 v8 = some y) (ls : Array Slot) (hl : lv_has ls 9 [(0, .ref o0), (1, .int v1), (2, .int v2), (3, .int v3), (4, .int v4), (5, .int v5), (6, .int v6), (7, .int v7), (8, .int v8)]), W p l e rm_CH_came s m args below meth c s.heap [] 0 0 (MQ below (zSi y) args s 0 0 (fun _ => False)) (F0 m 64 ls []) := by
  intro n
  induction n with
  | zero => intro v6 v7 v8 hf; cases hf
  | succ n ih =>
    intro v6 v7 v8 hf ls hl
    have hf : CH_came_b64 N (CH_came_h64 N s0 s1 s2 v1 v2 v3 v4 v5 n) s0 s1 s2 v1 v2 v3 v4 v5 v6 v7 v8 = some y := hf
    exact k_CH_came_b64 C0 s0 s1 s2 v1 v2 v3 v4 v5 v6 v7 v8 (fun v6 v7 v8 hf ls hl => ih v6 v7 v8 hf ls hl) hP hf ls hl
set_option maxHeartbeats 4000000 in
set_option maxRecDepth 100000 in
theorem k_CH_came_b0 {p : Program} {l : Launch} {e : Env} {s : State} {m : MethodId} {args : Array Value} {below : List Frame} {meth : Method} {c : Code} {dC : Nat → ClassId} {dI : Nat → Nat → Nat} {cy : Nat → ClassId} {o0 : Nat} {a0 : Nat → Nat} {a1 : Nat → Nat} {a2 : Nat → Nat} {N : Nat} {y : Int32} (C0 : zCx p s m args meth c cX10_came 9 (some .int) RX10 (dC, dI) cy) (s0 : zSt) (s1 : zSt) (s2 : zSt) (v1 : Int32) (v2 : Int32) (v3 : Int32) (v4 : Int32) (v5 : Int32) (hP : va_P (dC, dI) vwCl (wd_CH_came cy o0 a0 (zI s0) (zL s0) a1 (zI s1) (zL s1) (zA s1 5) (zA s1 6) (zA s1 7) (zA s1 14) a2 (zI s2) (zL s2) (zA s2 1) (zA s2 2) (zA s2 3) (zA s2 4) (zA s2 5) (zA s2 6) (zA s2 7)) s.heap) (hf : CH_came_b0 N s0 s1 s2 v1 v2 v3 v4 v5 = some y) (ls : Array Slot) (hl : lv_has ls 9 [(0, .ref o0), (1, .int v1), (2, .int v2), (3, .int v3), (4, .int v4), (5, .int v5)]) : W p l e rm_CH_came s m args below meth c s.heap [] 0 0 (MQ below (zSi y) args s 0 0 (fun _ => False)) (F0 m 0 ls []) := by
  obtain ⟨hx, hb, hr, hml, hown, hT, hk, hK⟩ := id C0
  refine lv_aload_n hx hb dX10_came_0 rfl (lv_at hl 0 rfl) ?_
  refine zget (v := .ref (a0 3)) hx hb hown hT hK hP inX10 rfl smX10 0 rfl 3 (by decide) tb_434 rfl dX10_came_1 ?_
  refine lv_iload_n hx hb dX10_came_4 rfl (lv_at hl 1 rfl) ?_
  obtain ⟨z1, hc2, hf⟩ := zbd_some hf
  refine zri (zV (As := [.int v1]) hx hb hml hown hT hl.1 (c_Valley_hasBell (a0 3) a1 s1 v1 hc2) zY_Valley_hasBell tb_652 (zpR hK hP [1] rfl 0 9 rfl rfl rfl) rm_ok_CH_came_Valley_hasBell rfl rfl (Nat.le_of_ble_eq_true rfl) dX10_came_5 ⟨Nat.zero_le _, Nat.zero_le _⟩) ?_
  refine lv_if_eq (tgt := 24) hx hb dX10_came_8 (by decide) (fun hb_3 => ?_) (fun hb_3 => ?_)
  · have hf := zif_t hb_3 hf
    refine lv_bipush (v := (-2)) hx hb dX10_came_24 (by decide) ?_
    cases hf
    exact zeri hx hb hr hk dX10_came_26
  · have hf := zif_f hb_3 hf
    refine lv_aload_n hx hb dX10_came_11 rfl (lv_at hl 0 rfl) ?_
    refine zget (v := .ref (a0 3)) hx hb hown hT hK hP inX10 rfl smX10 0 rfl 3 (by decide) tb_434 rfl dX10_came_12 ?_
    refine zget (v := .ref (a1 7)) hx hb hown hT hK hP inX9 rfl smX9 1 rfl 7 (by decide) tb_118 rfl dX10_came_15 ?_
    refine lv_iload_n hx hb dX10_came_18 rfl (lv_at hl 1 rfl) ?_
    obtain ⟨hi4, hf⟩ := zck_some hf
    refine va_iald hx hb hK.1 hP 4 0 rfl rfl hi4 dX10_came_19 ?_
    refine lv_iconst (v := (-1)) hx hb dX10_came_20 (by decide) ?_
    refine lv_icmp_eq (tgt := 27) hx hb dX10_came_21 (by decide) (fun hb_5 => ?_) (fun hb_5 => ?_)
    · have hf := zif_t hb_5 hf
      refine lv_iload_n hx hb dX10_came_27 rfl (lv_at hl 2 rfl) ?_
      obtain ⟨z6, hc7, hf⟩ := zbd_some hf
      refine zri (zS (As := [.int v2]) hx hb hml hown hT hl.1 (c_CH_isPlace v2 hc7) zY_CH_isPlace tb_713 (zpS hK hP [] rfl) rm_ok_CH_came_CH_isPlace rfl rfl (Nat.le_of_ble_eq_true rfl) dX10_came_28 ⟨Nat.zero_le _, Nat.zero_le _⟩) ?_
      refine lv_if_eq (tgt := 51) hx hb dX10_came_31 (by decide) (fun hb_8 => ?_) (fun hb_8 => ?_)
      · have hf := zif_t hb_8 hf
        refine lv_bipush (v := (-2)) hx hb dX10_came_51 (by decide) ?_
        cases hf
        exact zeri hx hb hr hk dX10_came_53
      · have hf := zif_f hb_8 hf
        refine lv_iload_n hx hb dX10_came_34 rfl (lv_at hl 3 rfl) ?_
        obtain ⟨z9, hc10, hf⟩ := zbd_some hf
        refine zri (zS (As := [.int v3]) hx hb hml hown hT hl.1 (c_CH_isWind v3 hc10) zY_CH_isWind tb_716 (zpS hK hP [] rfl) rm_ok_CH_came_CH_isWind rfl rfl (Nat.le_of_ble_eq_true rfl) dX10_came_35 ⟨Nat.zero_le _, Nat.zero_le _⟩) ?_
        refine lv_if_eq (tgt := 51) hx hb dX10_came_38 (by decide) (fun hb_11 => ?_) (fun hb_11 => ?_)
        · have hf := zif_t hb_11 hf
          refine lv_bipush (v := (-2)) hx hb dX10_came_51 (by decide) ?_
          cases hf
          exact zeri hx hb hr hk dX10_came_53
        · have hf := zif_f hb_11 hf
          refine lv_iload hx hb dX10_came_41 (lv_at hl 4 rfl) ?_
          refine lv_iconst (v := 0) hx hb dX10_came_43 (by decide) ?_
          refine lv_iconst (v := 2) hx hb dX10_came_44 (by decide) ?_
          obtain ⟨z12, hc13, hf⟩ := zbd_some hf
          refine zri (zS (As := [.int v4, .int 0, .int 2]) hx hb hml hown hT hl.1 (c_CH_within v4 0 2 hc13) zY_CH_within tb_495 (zpS hK hP [] rfl) rm_ok_CH_came_CH_within rfl rfl (Nat.le_of_ble_eq_true rfl) dX10_came_45 ⟨Nat.zero_le _, Nat.zero_le _⟩) ?_
          refine lv_if_ne (tgt := 54) hx hb dX10_came_48 (by decide) (fun hb_14 => ?_) (fun hb_14 => ?_)
          · have hf := zif_f hb_14 hf
            refine lv_iconst (v := 0) hx hb dX10_came_54 (by decide) ?_
            refine lv_istore (lv' := [(6, .int 0), (0, .ref o0), (1, .int v1), (2, .int v2), (3, .int v3), (4, .int v4), (5, .int v5)]) hx hb dX10_came_55 hl (by decide) rfl (fun ls hl => ?_)
            refine lv_bipush (v := 96) hx hb dX10_came_57 (by decide) ?_
            refine lv_istore (lv' := [(7, .int 96), (6, .int 0), (0, .ref o0), (1, .int v1), (2, .int v2), (3, .int v3), (4, .int v4), (5, .int v5)]) hx hb dX10_came_59 hl (by decide) rfl (fun ls hl => ?_)
            refine lv_iconst (v := 0) hx hb dX10_came_61 (by decide) ?_
            refine lv_istore (lv' := [(8, .int 0), (7, .int 96), (6, .int 0), (0, .ref o0), (1, .int v1), (2, .int v2), (3, .int v3), (4, .int v4), (5, .int v5)]) hx hb dX10_came_62 hl (by decide) rfl (fun ls hl => ?_)
            exact k_CH_came_h64 C0 s0 s1 s2 v1 v2 v3 v4 v5  hP N 0 96 0 hf _ (lv_sub hl [3, 4, 5, 6, 7, 8, 2, 1, 0] rfl)
          · have hf := zif_t hb_14 hf
            refine lv_bipush (v := (-2)) hx hb dX10_came_51 (by decide) ?_
            cases hf
            exact zeri hx hb hr hk dX10_came_53
    · have hf := zif_f hb_5 hf
      refine lv_bipush (v := (-2)) hx hb dX10_came_24 (by decide) ?_
      cases hf
      exact zeri hx hb hr hk dX10_came_26
set_option maxHeartbeats 4000000 in
set_option maxRecDepth 100000 in
theorem c_CH_came {l : Launch} {dC : Nat → ClassId} {dI : Nat → Nat → Nat} {cy : Nat → ClassId} {N : Nat} (o0 : Nat) (a0 : Nat → Nat) (s0 : zSt) (a1 : Nat → Nat) (s1 : zSt) (a2 : Nat → Nat) (s2 : zSt) (v1 : Int32) (v2 : Int32) (v3 : Int32) (v4 : Int32) (v5 : Int32) {y : Int32} (hf : CH_came N s0 s1 s2 v1 v2 v3 v4 v5 = some y) : Met l yX10_came (.code yX10_came cX10_came 9 (some .int) :: zt) rm_CH_came (va_Pc [.ref o0, .int v1, .int v2, .int v3, .int v4, .int v5] (zRd (dC, dI) cy (wd_CH_came cy o0 a0 (zI s0) (zL s0) a1 (zI s1) (zL s1) (zA s1 5) (zA s1 6) (zA s1 7) (zA s1 14) a2 (zI s2) (zL s2) (zA s2 1) (zA s2 2) (zA s2 3) (zA s2 4) (zA s2 5) (zA s2 6) (zA s2 7)))) (zSi y) 0 0 (fun _ => False) :=
  zentR (by decide +kernel) (Nat.le_of_ble_eq_true rfl) (fun p e s m below meth c C0 hP ls hl => k_CH_came_b0 C0 s0 s1 s2 v1 v2 v3 v4 v5 hP hf ls hl)
def wd_CH_cracked (cy : Nat → ClassId) (o0 : Nat) (a0 : Nat → Nat) (g0 : Nat → Int32) (h0 : Nat → Int64) (x0_10 : Nat → Int32) (a1 : Nat → Nat) (g1 : Nat → Int32) (h1 : Nat → Int64) (x1_5 : Nat → Int32) (a2 : Nat → Nat) (g2 : Nat → Int32) (h2 : Nat → Int64) (x2_1 : Nat → Int32) (x2_3 : Nat → Int32) (x2_4 : Nat → Int32) (x2_5 : Nat → Int32) (x2_6 : Nat → Int32) (x2_7 : Nat → Int32) (a3 : Nat → Nat) (g3 : Nat → Int32) (h3 : Nat → Int64) (x3_1 : Nat → Int32) (x3_2 : Nat → Int32) (x3_3 : Nat → Int32) (x3_6 : Nat → Int32) (x3_7 : Nat → Int32) : va_W := [(o0, .inr (10, fs_CH a0 g0 h0)), (a0 10, .inl (cy 0, 8, .inl x0_10)), ((a0 3), .inr (9, fs_Valley a1 g1 h1)), (a1 5, .inl (cy 0, 11, .inl x1_5)), ((a0 15), .inr (1, fs_Creeps a2 g2 h2)), (a2 1, .inl (cy 0, 8, .inl x2_1)), (a2 3, .inl (cy 0, 40, .inl x2_3)), (a2 4, .inl (cy 0, 40, .inl x2_4)), (a2 5, .inl (cy 0, 40, .inl x2_5)), (a2 6, .inl (cy 0, 8, .inl x2_6)), (a2 7, .inl (cy 0, 360, .inl x2_7)), ((a0 8), .inr (4, fs_Entries a3 g3 h3)), (a3 1, .inl (cy 0, 40, .inl x3_1)), (a3 2, .inl (cy 0, 40, .inl x3_2)), (a3 3, .inl (cy 0, 40, .inl x3_3)), (a3 6, .inl (cy 0, 40, .inl x3_6)), (a3 7, .inl (cy 0, 40, .inl x3_7))]
def rm_CH_cracked : Room := { frames := 16, cells := 0, slots := 0, locals := 400 }
theorem rm_ok_CH_cracked_Creeps_gather : rm_Creeps_gather.cells = 0 ∧ rm_Creeps_gather.slots = 0 ∧ rm_Creeps_gather.frames + 1 ≤ rm_CH_cracked.frames ∧ 8 + (5 + 11) + rm_Creeps_gather.locals ≤ rm_CH_cracked.locals := by decide
theorem rm_ok_CH_cracked_Creeps_leastTogether : rm_Creeps_leastTogether.cells = 0 ∧ rm_Creeps_leastTogether.slots = 0 ∧ rm_Creeps_leastTogether.frames + 1 ≤ rm_CH_cracked.frames ∧ 8 + (2 + 11) + rm_Creeps_leastTogether.locals ≤ rm_CH_cracked.locals := by decide
set_option maxHeartbeats 4000000 in
set_option maxRecDepth 100000 in
theorem k_CH_cracked_b0 {p : Program} {l : Launch} {e : Env} {s : State} {m : MethodId} {args : Array Value} {below : List Frame} {meth : Method} {c : Code} {dC : Nat → ClassId} {dI : Nat → Nat → Nat} {cy : Nat → ClassId} {A : Nat → Prop} {o0 : Nat} {a0 : Nat → Nat} {a1 : Nat → Nat} {a2 : Nat → Nat} {a3 : Nat → Nat} {N : Nat} {y : Int32 × zSt × zSt} (C0 : zCx p s m args meth c cX10_cracked 3 (some .int) RX10 (dC, dI) cy) (s0 : zSt) (s1 : zSt) (s2 : zSt) (s3 : zSt) (v1 : Int32) (hA : ∀ q, s.heap.size ≤ q → A q) {H : Heap} {locs : List Loc} (hP : va_P (dC, dI) vwCl (wd_CH_cracked cy o0 a0 (zI s0) (zL s0) (zA s0 10) a1 (zI s1) (zL s1) (zA s1 5) a2 (zI s2) (zL s2) (zA s2 1) (zA s2 3) (zA s2 4) (zA s2 5) (zA s2 6) (zA s2 7) a3 (zI s3) (zL s3) (zA s3 1) (zA s3 2) (zA s3 3) (zA s3 6) (zA s3 7)) H) (hD : va_D A (wd_CH_cracked cy o0 a0 (zI s0) (zL s0) (zA s0 10) a1 (zI s1) (zL s1) (zA s1 5) a2 (zI s2) (zL s2) (zA s2 1) (zA s2 3) (zA s2 4) (zA s2 5) (zA s2 6) (zA s2 7) a3 (zI s3) (zL s3) (zA s3 1) (zA s3 2) (zA s3 3) (zA s3 6) (zA s3 7))) (hS : va_S A s.heap H locs) (hf : CH_cracked_b0 N s0 s1 s2 s3 v1 = some y) (ls : Array Slot) (hl : lv_has ls 3 [(0, .ref o0), (1, .int v1)]) : W p l e rm_CH_cracked s m args below meth c H locs 0 0 (MQ below (zQi y.1 (dC, dI) cy (wd_CH_cracked cy o0 a0 (zI y.2.1) (zL y.2.1) (zA y.2.1 10) a1 (zI s1) (zL s1) (zA s1 5) a2 (zI y.2.2) (zL y.2.2) (zA y.2.2 1) (zA y.2.2 3) (zA y.2.2 4) (zA y.2.2 5) (zA y.2.2 6) (zA y.2.2 7) a3 (zI s3) (zL s3) (zA s3 1) (zA s3 2) (zA s3 3) (zA s3 6) (zA s3 7)) A) args s 0 0 A) (F0 m 0 ls []) := by
  obtain ⟨hx, hb, hr, hml, hown, hT, hk, hK⟩ := id C0
  refine lv_aload_n hx hb dX10_cracked_0 rfl (lv_at hl 0 rfl) ?_
  refine lv_iconst (v := 0) hx hb dX10_cracked_1 (by decide) ?_
  refine zput (fs' := fs_CH a0 (upd (zI s0) 11 0) (zL s0)) (ws' := (wd_CH_cracked cy o0 a0 (upd (zI s0) 11 0) (zL s0) (zA s0 10) a1 (zI s1) (zL s1) (zA s1 5) a2 (zI s2) (zL s2) (zA s2 1) (zA s2 3) (zA s2 4) (zA s2 5) (zA s2 6) (zA s2 7) a3 (zI s3) (zL s3) (zA s3 1) (zA s3 2) (zA s3 3) (zA s3 6) (zA s3 7))) hx hb hown hT hK hP hD hS inX10 rfl smX10 tyX10_ok nmX10 0 rfl 11 (by decide) tb_442 rfl rfl rfl (Nat.le_of_ble_eq_true rfl) rfl rfl dX10_cracked_2 (fun H locs hP hD hS => ?_)
  refine lv_aload_n hx hb dX10_cracked_5 rfl (lv_at hl 0 rfl) ?_
  refine zget (v := .ref (a0 3)) hx hb hown hT hK hP inX10 rfl smX10 0 rfl 3 (by decide) tb_434 rfl dX10_cracked_6 ?_
  refine zget (v := .int (zI s1 9)) hx hb hown hT hK hP inX9 rfl smX9 2 rfl 9 (by decide) tb_125 rfl dX10_cracked_9 ?_
  refine lv_bipush (v := 8) hx hb dX10_cracked_12 (by decide) ?_
  refine lv_icmp_le (tgt := 20) hx hb dX10_cracked_14 (by decide) (fun hb_1 => ?_) (fun hb_1 => ?_)
  · have hf := zif_t hb_1 hf
    refine lv_aload_n hx hb dX10_cracked_20 rfl (lv_at hl 0 rfl) ?_
    refine zget (v := .ref (a0 15)) hx hb hown hT hK hP inX10 rfl smX10 0 rfl 15 (by decide) tb_446 rfl dX10_cracked_21 ?_
    refine lv_aload_n hx hb dX10_cracked_24 rfl (lv_at hl 0 rfl) ?_
    refine zget (v := .ref (a0 3)) hx hb hown hT hK hP inX10 rfl smX10 0 rfl 3 (by decide) tb_434 rfl dX10_cracked_25 ?_
    refine lv_aload_n hx hb dX10_cracked_28 rfl (lv_at hl 0 rfl) ?_
    refine zget (v := .ref (a0 8)) hx hb hown hT hK hP inX10 rfl smX10 0 rfl 8 (by decide) tb_439 rfl dX10_cracked_29 ?_
    refine lv_iload_n hx hb dX10_cracked_32 rfl (lv_at hl 1 rfl) ?_
    obtain ⟨z2, hc3, hf⟩ := zbd_some hf
    refine zwv (wr := [(o0, .inr (10, fs_CH a0 (upd (zI s0) 11 0) (zL s0))), (a0 10, .inl (cy 0, 8, .inl (zA s0 10))), (a2 6, .inl (cy 0, 8, .inl (zA s2 6)))]) (ws' := (wd_CH_cracked cy o0 a0 (upd (zI s0) 11 0) (zL s0) (zA s0 10) a1 (zI s1) (zL s1) (zA s1 5) a2 (zI z2) (zL z2) (zA z2 1) (zA z2 3) (zA z2 4) (zA z2 5) (zA s2 6) (zA z2 7) a3 (zI s3) (zL s3) (zA s3 1) (zA s3 2) (zA s3 3) (zA s3 6) (zA s3 7))) (zV (As := [.ref (a0 3), .ref (a0 8), .int v1]) hx hb hml hown hT hl.1 (c_Creeps_gather (a0 15) a2 s2 (a0 3) a1 s1 (a0 8) a3 s3 v1 hc3) zY_Creeps_gather tb_885 (zpRw hK hP hD [4, 5, 6, 7, 8, 10, 2, 3, 11, 12, 13, 14, 15, 16] (by decide) rfl 0 1 rfl rfl rfl rfl) rm_ok_CH_cracked_Creeps_gather rfl rfl (Nat.le_of_ble_eq_true rfl) dX10_cracked_33 ⟨Nat.zero_le _, Nat.zero_le _⟩) hP hD hS hA [4, 5, 6, 7, 8, 10, 2, 3, 11, 12, 13, 14, 15, 16] [0, 1, 9] [0, 1, 9, 10, 3, 4, 5, 6, 7, 2, 8, 11, 12, 13, 14, 15, 16] rfl rfl (by decide) (by decide) (by decide) rfl rfl (fun H locs hP hD hS => ?_)
    refine lv_aload_n hx hb dX10_cracked_36 rfl (lv_at hl 0 rfl) ?_
    refine zget (v := .ref (a0 15)) hx hb hown hT hK hP inX10 rfl smX10 0 rfl 15 (by decide) tb_446 rfl dX10_cracked_37 ?_
    refine lv_aload_n hx hb dX10_cracked_40 rfl (lv_at hl 0 rfl) ?_
    refine zget (v := .ref (a0 10)) hx hb hown hT hK hP inX10 rfl smX10 0 rfl 10 (by decide) tb_441 rfl dX10_cracked_41 ?_
    obtain ⟨z4, hc5, hf⟩ := zbd_some hf
    refine zwi (wr := [(o0, .inr (10, fs_CH a0 (upd (zI s0) 11 0) (zL s0))), ((a0 3), .inr (9, fs_Valley a1 (zI s1) (zL s1))), (a1 5, .inl (cy 0, 11, .inl (zA s1 5))), (a2 3, .inl (cy 0, 40, .inl (zA z2 3))), ((a0 8), .inr (4, fs_Entries a3 (zI s3) (zL s3))), (a3 1, .inl (cy 0, 40, .inl (zA s3 1))), (a3 2, .inl (cy 0, 40, .inl (zA s3 2))), (a3 3, .inl (cy 0, 40, .inl (zA s3 3))), (a3 6, .inl (cy 0, 40, .inl (zA s3 6))), (a3 7, .inl (cy 0, 40, .inl (zA s3 7)))]) (ws' := (wd_CH_cracked cy o0 a0 (upd (zI s0) 11 0) (zL s0) z4.2.2 a1 (zI s1) (zL s1) (zA s1 5) a2 (zI z4.2.1) (zL z4.2.1) (zA z4.2.1 1) (zA z2 3) (zA z4.2.1 4) (zA z4.2.1 5) (zA z4.2.1 6) (zA z4.2.1 7) a3 (zI s3) (zL s3) (zA s3 1) (zA s3 2) (zA s3 3) (zA s3 6) (zA s3 7))) (zV (As := [.ref (a0 10)]) hx hb hml hown hT hl.1 (c_Creeps_leastTogether (a0 15) a2 (zmg [6] z2 s2) (a0 10) 8 (zA s0 10) hc5) zY_Creeps_leastTogether tb_892 (zpRw hK hP hD [4, 5, 7, 8, 9, 10, 1] (by decide) rfl 0 1 rfl rfl rfl rfl) rm_ok_CH_cracked_Creeps_leastTogether rfl rfl (Nat.le_of_ble_eq_true rfl) dX10_cracked_44 ⟨Nat.zero_le _, Nat.zero_le _⟩) hP hD hS hA [4, 5, 7, 8, 9, 10, 1] [0, 2, 3, 6, 11, 12, 13, 14, 15, 16] [0, 16, 1, 2, 10, 11, 3, 12, 13, 14, 15, 4, 5, 6, 7, 8, 9] rfl rfl (by decide) (by decide) (by decide) rfl rfl (fun H locs hP hD hS => ?_)
    refine lv_istore_n (lv' := [(2, .int z4.1), (0, .ref o0), (1, .int v1)]) hx hb dX10_cracked_47 rfl hl (by decide) rfl (fun ls hl => ?_)
    refine lv_aload_n hx hb dX10_cracked_48 rfl (lv_at hl 1 rfl) ?_
    refine lv_iload_n hx hb dX10_cracked_49 rfl (lv_at hl 0 rfl) ?_
    refine lv_iconst (v := (-1)) hx hb dX10_cracked_50 (by decide) ?_
    refine lv_icmp_ne (tgt := 58) hx hb dX10_cracked_51 (by decide) (fun hb_6 => ?_) (fun hb_6 => ?_)
    · have hf := zif_f hb_6 hf
      refine lv_aload_n hx hb dX10_cracked_58 rfl (lv_at hl 1 rfl) ?_
      refine zget (v := .ref (a0 3)) hx hb hown hT hK hP inX10 rfl smX10 0 rfl 3 (by decide) tb_434 rfl dX10_cracked_59 ?_
      refine zget (v := .int (zI s1 9)) hx hb hown hT hK hP inX9 rfl smX9 2 rfl 9 (by decide) tb_125 rfl dX10_cracked_62 ?_
      refine zput (fs' := fs_CH a0 (upd (upd (zI s0) 11 0) 11 (zI s1 9)) (zL s0)) (ws' := (wd_CH_cracked cy o0 a0 (upd (upd (zI s0) 11 0) 11 (zI s1 9)) (zL s0) z4.2.2 a1 (zI s1) (zL s1) (zA s1 5) a2 (zI z4.2.1) (zL z4.2.1) (zA z4.2.1 1) (zA z2 3) (zA z4.2.1 4) (zA z4.2.1 5) (zA z4.2.1 6) (zA z4.2.1 7) a3 (zI s3) (zL s3) (zA s3 1) (zA s3 2) (zA s3 3) (zA s3 6) (zA s3 7))) hx hb hown hT hK hP hD hS inX10 rfl smX10 tyX10_ok nmX10 0 rfl 11 (by decide) tb_442 rfl rfl rfl (Nat.le_of_ble_eq_true rfl) rfl rfl dX10_cracked_65 (fun H locs hP hD hS => ?_)
      refine lv_iload_n hx hb dX10_cracked_68 rfl (lv_at hl 0 rfl) ?_
      cases hf
      exact zewi hx hb hr hk hK hP hD hS dX10_cracked_69
    · have hf := zif_t hb_6 hf
      refine lv_iconst (v := 0) hx hb dX10_cracked_54 (by decide) ?_
      refine lv_goto (tgt := 65) hx hb dX10_cracked_55 (by decide) ?_
      refine zput (fs' := fs_CH a0 (upd (upd (zI s0) 11 0) 11 0) (zL s0)) (ws' := (wd_CH_cracked cy o0 a0 (upd (upd (zI s0) 11 0) 11 0) (zL s0) z4.2.2 a1 (zI s1) (zL s1) (zA s1 5) a2 (zI z4.2.1) (zL z4.2.1) (zA z4.2.1 1) (zA z2 3) (zA z4.2.1 4) (zA z4.2.1 5) (zA z4.2.1 6) (zA z4.2.1 7) a3 (zI s3) (zL s3) (zA s3 1) (zA s3 2) (zA s3 3) (zA s3 6) (zA s3 7))) hx hb hown hT hK hP hD hS inX10 rfl smX10 tyX10_ok nmX10 0 rfl 11 (by decide) tb_442 rfl rfl rfl (Nat.le_of_ble_eq_true rfl) rfl rfl dX10_cracked_65 (fun H locs hP hD hS => ?_)
      refine lv_iload_n hx hb dX10_cracked_68 rfl (lv_at hl 0 rfl) ?_
      cases hf
      exact zewi hx hb hr hk hK hP hD hS dX10_cracked_69
  · have hf := zif_f hb_1 hf
    refine lv_bipush (v := (-2)) hx hb dX10_cracked_17 (by decide) ?_
    cases hf
    exact zewi hx hb hr hk hK hP hD hS dX10_cracked_19
set_option maxHeartbeats 4000000 in
set_option maxRecDepth 100000 in
theorem c_CH_cracked {l : Launch} {dC : Nat → ClassId} {dI : Nat → Nat → Nat} {cy : Nat → ClassId} {sz : Nat} {N : Nat} (o0 : Nat) (a0 : Nat → Nat) (s0 : zSt) (a1 : Nat → Nat) (s1 : zSt) (a2 : Nat → Nat) (s2 : zSt) (a3 : Nat → Nat) (s3 : zSt) (v1 : Int32) {y : Int32 × zSt × zSt} (hf : CH_cracked N s0 s1 s2 s3 v1 = some y) : Met l yX10_cracked (.code yX10_cracked cX10_cracked 3 (some .int) :: zt) rm_CH_cracked (va_Pc [.ref o0, .int v1] (zPre (dC, dI) cy (wd_CH_cracked cy o0 a0 (zI s0) (zL s0) (zA s0 10) a1 (zI s1) (zL s1) (zA s1 5) a2 (zI s2) (zL s2) (zA s2 1) (zA s2 3) (zA s2 4) (zA s2 5) (zA s2 6) (zA s2 7) a3 (zI s3) (zL s3) (zA s3 1) (zA s3 2) (zA s3 3) (zA s3 6) (zA s3 7)) sz)) (zQi y.1 (dC, dI) cy (wd_CH_cracked cy o0 a0 (zI y.2.1) (zL y.2.1) (zA y.2.1 10) a1 (zI s1) (zL s1) (zA s1 5) a2 (zI y.2.2) (zL y.2.2) (zA y.2.2 1) (zA y.2.2 3) (zA y.2.2 4) (zA y.2.2 5) (zA y.2.2 6) (zA y.2.2 7) a3 (zI s3) (zL s3) (zA s3 1) (zA s3 2) (zA s3 3) (zA s3 6) (zA s3 7)) (va_A (wd_CH_cracked cy o0 a0 (zI s0) (zL s0) (zA s0 10) a1 (zI s1) (zL s1) (zA s1 5) a2 (zI s2) (zL s2) (zA s2 1) (zA s2 3) (zA s2 4) (zA s2 5) (zA s2 6) (zA s2 7) a3 (zI s3) (zL s3) (zA s3 1) (zA s3 2) (zA s3 3) (zA s3 6) (zA s3 7)) sz)) 0 0 (va_A (wd_CH_cracked cy o0 a0 (zI s0) (zL s0) (zA s0 10) a1 (zI s1) (zL s1) (zA s1 5) a2 (zI s2) (zL s2) (zA s2 1) (zA s2 3) (zA s2 4) (zA s2 5) (zA s2 6) (zA s2 7) a3 (zI s3) (zL s3) (zA s3 1) (zA s3 2) (zA s3 3) (zA s3 6) (zA s3 7)) sz) :=
  zentW (Qw := fun A => (zQi y.1 (dC, dI) cy (wd_CH_cracked cy o0 a0 (zI y.2.1) (zL y.2.1) (zA y.2.1 10) a1 (zI s1) (zL s1) (zA s1 5) a2 (zI y.2.2) (zL y.2.2) (zA y.2.2 1) (zA y.2.2 3) (zA y.2.2 4) (zA y.2.2 5) (zA y.2.2 6) (zA y.2.2 7) a3 (zI s3) (zL s3) (zA s3 1) (zA s3 2) (zA s3 3) (zA s3 6) (zA s3 7)) A)) (by decide +kernel) (Nat.le_of_ble_eq_true rfl) (fun p e s m below meth c A C0 hA hP hD hS ls hl => k_CH_cracked_b0 C0 s0 s1 s2 s3 v1 hA hP hD hS hf ls hl)
def wd_CH_first (cy : Nat → ClassId) (o0 : Nat) (a0 : Nat → Nat) (g0 : Nat → Int32) (h0 : Nat → Int64) (a1 : Nat → Nat) (g1 : Nat → Int32) (h1 : Nat → Int64) (x1_5 : Nat → Int32) (a2 : Nat → Nat) (g2 : Nat → Int32) (h2 : Nat → Int64) (x2_1 : Nat → Int32) (x2_3 : Nat → Int32) (x2_4 : Nat → Int32) (x2_5 : Nat → Int32) (x2_7 : Nat → Int32) (a3 : Nat → Nat) (g3 : Nat → Int32) (h3 : Nat → Int64) (x3_1 : Nat → Int32) (x3_2 : Nat → Int32) (x3_3 : Nat → Int32) (x3_6 : Nat → Int32) (x3_7 : Nat → Int32) : va_W := [(o0, .inr (10, fs_CH a0 g0 h0)), ((a0 3), .inr (9, fs_Valley a1 g1 h1)), (a1 5, .inl (cy 0, 11, .inl x1_5)), ((a0 15), .inr (1, fs_Creeps a2 g2 h2)), (a2 1, .inl (cy 0, 8, .inl x2_1)), (a2 3, .inl (cy 0, 40, .inl x2_3)), (a2 4, .inl (cy 0, 40, .inl x2_4)), (a2 5, .inl (cy 0, 40, .inl x2_5)), (a2 7, .inl (cy 0, 360, .inl x2_7)), ((a0 8), .inr (4, fs_Entries a3 g3 h3)), (a3 1, .inl (cy 0, 40, .inl x3_1)), (a3 2, .inl (cy 0, 40, .inl x3_2)), (a3 3, .inl (cy 0, 40, .inl x3_3)), (a3 6, .inl (cy 0, 40, .inl x3_6)), (a3 7, .inl (cy 0, 40, .inl x3_7))]
def rm_CH_first : Room := { frames := 16, cells := 0, slots := 0, locals := 387 }
theorem rm_ok_CH_first_Creeps_firstThatCant : rm_Creeps_firstThatCant.cells = 0 ∧ rm_Creeps_firstThatCant.slots = 0 ∧ rm_Creeps_firstThatCant.frames + 1 ≤ rm_CH_first.frames ∧ 8 + (1 + 11) + rm_Creeps_firstThatCant.locals ≤ rm_CH_first.locals := by decide
theorem rm_ok_CH_first_Creeps_gather : rm_Creeps_gather.cells = 0 ∧ rm_Creeps_gather.slots = 0 ∧ rm_Creeps_gather.frames + 1 ≤ rm_CH_first.frames ∧ 8 + (5 + 11) + rm_Creeps_gather.locals ≤ rm_CH_first.locals := by decide
set_option maxHeartbeats 4000000 in
set_option maxRecDepth 100000 in
theorem k_CH_first_b0 {p : Program} {l : Launch} {e : Env} {s : State} {m : MethodId} {args : Array Value} {below : List Frame} {meth : Method} {c : Code} {dC : Nat → ClassId} {dI : Nat → Nat → Nat} {cy : Nat → ClassId} {A : Nat → Prop} {o0 : Nat} {a0 : Nat → Nat} {a1 : Nat → Nat} {a2 : Nat → Nat} {a3 : Nat → Nat} {N : Nat} {y : Int32 × zSt} (C0 : zCx p s m args meth c cX10_first 2 (some .int) RX10 (dC, dI) cy) (s0 : zSt) (s1 : zSt) (s2 : zSt) (s3 : zSt) (v1 : Int32) (hA : ∀ q, s.heap.size ≤ q → A q) {H : Heap} {locs : List Loc} (hP : va_P (dC, dI) vwCl (wd_CH_first cy o0 a0 (zI s0) (zL s0) a1 (zI s1) (zL s1) (zA s1 5) a2 (zI s2) (zL s2) (zA s2 1) (zA s2 3) (zA s2 4) (zA s2 5) (zA s2 7) a3 (zI s3) (zL s3) (zA s3 1) (zA s3 2) (zA s3 3) (zA s3 6) (zA s3 7)) H) (hD : va_D A (wd_CH_first cy o0 a0 (zI s0) (zL s0) a1 (zI s1) (zL s1) (zA s1 5) a2 (zI s2) (zL s2) (zA s2 1) (zA s2 3) (zA s2 4) (zA s2 5) (zA s2 7) a3 (zI s3) (zL s3) (zA s3 1) (zA s3 2) (zA s3 3) (zA s3 6) (zA s3 7))) (hS : va_S A s.heap H locs) (hf : CH_first_b0 N s0 s1 s2 s3 v1 = some y) (ls : Array Slot) (hl : lv_has ls 2 [(0, .ref o0), (1, .int v1)]) : W p l e rm_CH_first s m args below meth c H locs 0 0 (MQ below (zQi y.1 (dC, dI) cy (wd_CH_first cy o0 a0 (zI s0) (zL s0) a1 (zI s1) (zL s1) (zA s1 5) a2 (zI y.2) (zL y.2) (zA y.2 1) (zA y.2 3) (zA y.2 4) (zA y.2 5) (zA y.2 7) a3 (zI s3) (zL s3) (zA s3 1) (zA s3 2) (zA s3 3) (zA s3 6) (zA s3 7)) A) args s 0 0 A) (F0 m 0 ls []) := by
  obtain ⟨hx, hb, hr, hml, hown, hT, hk, hK⟩ := id C0
  refine lv_aload_n hx hb dX10_first_0 rfl (lv_at hl 0 rfl) ?_
  refine zget (v := .ref (a0 3)) hx hb hown hT hK hP inX10 rfl smX10 0 rfl 3 (by decide) tb_434 rfl dX10_first_1 ?_
  refine zget (v := .int (zI s1 9)) hx hb hown hT hK hP inX9 rfl smX9 1 rfl 9 (by decide) tb_125 rfl dX10_first_4 ?_
  refine lv_bipush (v := 8) hx hb dX10_first_7 (by decide) ?_
  refine lv_icmp_le (tgt := 15) hx hb dX10_first_9 (by decide) (fun hb_1 => ?_) (fun hb_1 => ?_)
  · have hf := zif_t hb_1 hf
    refine lv_aload_n hx hb dX10_first_15 rfl (lv_at hl 0 rfl) ?_
    refine zget (v := .ref (a0 15)) hx hb hown hT hK hP inX10 rfl smX10 0 rfl 15 (by decide) tb_446 rfl dX10_first_16 ?_
    refine lv_aload_n hx hb dX10_first_19 rfl (lv_at hl 0 rfl) ?_
    refine zget (v := .ref (a0 3)) hx hb hown hT hK hP inX10 rfl smX10 0 rfl 3 (by decide) tb_434 rfl dX10_first_20 ?_
    refine lv_aload_n hx hb dX10_first_23 rfl (lv_at hl 0 rfl) ?_
    refine zget (v := .ref (a0 8)) hx hb hown hT hK hP inX10 rfl smX10 0 rfl 8 (by decide) tb_439 rfl dX10_first_24 ?_
    refine lv_iload_n hx hb dX10_first_27 rfl (lv_at hl 1 rfl) ?_
    obtain ⟨z2, hc3, hf⟩ := zbd_some hf
    refine zwv (wr := [(o0, .inr (10, fs_CH a0 (zI s0) (zL s0)))]) (ws' := (wd_CH_first cy o0 a0 (zI s0) (zL s0) a1 (zI s1) (zL s1) (zA s1 5) a2 (zI z2) (zL z2) (zA z2 1) (zA z2 3) (zA z2 4) (zA z2 5) (zA z2 7) a3 (zI s3) (zL s3) (zA s3 1) (zA s3 2) (zA s3 3) (zA s3 6) (zA s3 7))) (zV (As := [.ref (a0 3), .ref (a0 8), .int v1]) hx hb hml hown hT hl.1 (c_Creeps_gather (a0 15) a2 s2 (a0 3) a1 s1 (a0 8) a3 s3 v1 hc3) zY_Creeps_gather tb_885 (zpRw hK hP hD [3, 4, 5, 6, 7, 8, 1, 2, 9, 10, 11, 12, 13, 14] (by decide) rfl 0 1 rfl rfl rfl rfl) rm_ok_CH_first_Creeps_gather rfl rfl (Nat.le_of_ble_eq_true rfl) dX10_first_28 ⟨Nat.zero_le _, Nat.zero_le _⟩) hP hD hS hA [3, 4, 5, 6, 7, 8, 1, 2, 9, 10, 11, 12, 13, 14] [0] [0, 7, 8, 1, 2, 3, 4, 5, 6, 9, 10, 11, 12, 13, 14] rfl rfl (by decide) (by decide) (by decide) rfl rfl (fun H locs hP hD hS => ?_)
    refine lv_aload_n hx hb dX10_first_31 rfl (lv_at hl 0 rfl) ?_
    refine zget (v := .ref (a0 15)) hx hb hown hT hK hP inX10 rfl smX10 0 rfl 15 (by decide) tb_446 rfl dX10_first_32 ?_
    obtain ⟨z4, hc5, hf⟩ := zbd_some hf
    refine zwi (wr := [(o0, .inr (10, fs_CH a0 (zI s0) (zL s0))), ((a0 3), .inr (9, fs_Valley a1 (zI s1) (zL s1))), (a1 5, .inl (cy 0, 11, .inl (zA s1 5))), ((a0 8), .inr (4, fs_Entries a3 (zI s3) (zL s3))), (a3 1, .inl (cy 0, 40, .inl (zA s3 1))), (a3 2, .inl (cy 0, 40, .inl (zA s3 2))), (a3 3, .inl (cy 0, 40, .inl (zA s3 3))), (a3 6, .inl (cy 0, 40, .inl (zA s3 6))), (a3 7, .inl (cy 0, 40, .inl (zA s3 7)))]) (ws' := (wd_CH_first cy o0 a0 (zI s0) (zL s0) a1 (zI s1) (zL s1) (zA s1 5) a2 (zI z4.2) (zL z4.2) (zA z4.2 1) (zA z4.2 3) (zA z4.2 4) (zA z4.2 5) (zA z4.2 7) a3 (zI s3) (zL s3) (zA s3 1) (zA s3 2) (zA s3 3) (zA s3 6) (zA s3 7))) (zV (As := []) hx hb hml hown hT hl.1 (c_Creeps_firstThatCant (a0 15) a2 z2 hc5) zY_Creeps_firstThatCant tb_917 (zpRw hK hP hD [3, 4, 5, 6, 7, 8] (by decide) rfl 0 1 rfl rfl rfl rfl) rm_ok_CH_first_Creeps_firstThatCant rfl rfl (Nat.le_of_ble_eq_true rfl) dX10_first_35 ⟨Nat.zero_le _, Nat.zero_le _⟩) hP hD hS hA [3, 4, 5, 6, 7, 8] [0, 1, 2, 9, 10, 11, 12, 13, 14] [0, 1, 2, 9, 10, 11, 12, 13, 14, 3, 4, 5, 6, 7, 8] rfl rfl (by decide) (by decide) (by decide) rfl rfl (fun H locs hP hD hS => ?_)
    cases hf
    exact zewi hx hb hr hk hK hP hD hS dX10_first_38
  · have hf := zif_f hb_1 hf
    refine lv_bipush (v := (-2)) hx hb dX10_first_12 (by decide) ?_
    cases hf
    exact zewi hx hb hr hk hK hP hD hS dX10_first_14
set_option maxHeartbeats 4000000 in
set_option maxRecDepth 100000 in
theorem c_CH_first {l : Launch} {dC : Nat → ClassId} {dI : Nat → Nat → Nat} {cy : Nat → ClassId} {sz : Nat} {N : Nat} (o0 : Nat) (a0 : Nat → Nat) (s0 : zSt) (a1 : Nat → Nat) (s1 : zSt) (a2 : Nat → Nat) (s2 : zSt) (a3 : Nat → Nat) (s3 : zSt) (v1 : Int32) {y : Int32 × zSt} (hf : CH_first N s0 s1 s2 s3 v1 = some y) : Met l yX10_first (.code yX10_first cX10_first 2 (some .int) :: zt) rm_CH_first (va_Pc [.ref o0, .int v1] (zPre (dC, dI) cy (wd_CH_first cy o0 a0 (zI s0) (zL s0) a1 (zI s1) (zL s1) (zA s1 5) a2 (zI s2) (zL s2) (zA s2 1) (zA s2 3) (zA s2 4) (zA s2 5) (zA s2 7) a3 (zI s3) (zL s3) (zA s3 1) (zA s3 2) (zA s3 3) (zA s3 6) (zA s3 7)) sz)) (zQi y.1 (dC, dI) cy (wd_CH_first cy o0 a0 (zI s0) (zL s0) a1 (zI s1) (zL s1) (zA s1 5) a2 (zI y.2) (zL y.2) (zA y.2 1) (zA y.2 3) (zA y.2 4) (zA y.2 5) (zA y.2 7) a3 (zI s3) (zL s3) (zA s3 1) (zA s3 2) (zA s3 3) (zA s3 6) (zA s3 7)) (va_A (wd_CH_first cy o0 a0 (zI s0) (zL s0) a1 (zI s1) (zL s1) (zA s1 5) a2 (zI s2) (zL s2) (zA s2 1) (zA s2 3) (zA s2 4) (zA s2 5) (zA s2 7) a3 (zI s3) (zL s3) (zA s3 1) (zA s3 2) (zA s3 3) (zA s3 6) (zA s3 7)) sz)) 0 0 (va_A (wd_CH_first cy o0 a0 (zI s0) (zL s0) a1 (zI s1) (zL s1) (zA s1 5) a2 (zI s2) (zL s2) (zA s2 1) (zA s2 3) (zA s2 4) (zA s2 5) (zA s2 7) a3 (zI s3) (zL s3) (zA s3 1) (zA s3 2) (zA s3 3) (zA s3 6) (zA s3 7)) sz) :=
  zentW (Qw := fun A => (zQi y.1 (dC, dI) cy (wd_CH_first cy o0 a0 (zI s0) (zL s0) a1 (zI s1) (zL s1) (zA s1 5) a2 (zI y.2) (zL y.2) (zA y.2 1) (zA y.2 3) (zA y.2 4) (zA y.2 5) (zA y.2 7) a3 (zI s3) (zL s3) (zA s3 1) (zA s3 2) (zA s3 3) (zA s3 6) (zA s3 7)) A)) (by decide +kernel) (Nat.le_of_ble_eq_true rfl) (fun p e s m below meth c A C0 hA hP hD hS ls hl => k_CH_first_b0 C0 s0 s1 s2 s3 v1 hA hP hD hS hf ls hl)
def wd_CH_dealt (cy : Nat → ClassId) (o0 : Nat) (a0 : Nat → Nat) (g0 : Nat → Int32) (h0 : Nat → Int64) (x0_10 : Nat → Int32) (a1 : Nat → Nat) (g1 : Nat → Int32) (h1 : Nat → Int64) (x1_6 : Nat → Int32) (a2 : Nat → Nat) (g2 : Nat → Int32) (h2 : Nat → Int64) (x2_2 : Nat → Int32) : va_W := [(o0, .inr (10, fs_CH a0 g0 h0)), (a0 10, .inl (cy 0, 8, .inl x0_10)), ((a0 3), .inr (9, fs_Valley a1 g1 h1)), (a1 6, .inl (cy 0, 11, .inl x1_6)), ((a0 16), .inr (2, fs_Dealer a2 g2 h2)), (a2 2, .inl (cy 0, 8, .inl x2_2))]
def rm_CH_dealt : Room := { frames := 17, cells := 0, slots := 0, locals := 440 }
theorem rm_ok_CH_dealt_CH_within : rm_CH_within.cells = 0 ∧ rm_CH_within.slots = 0 ∧ rm_CH_within.frames + 1 ≤ rm_CH_dealt.frames ∧ 8 + (3 + 11) + rm_CH_within.locals ≤ rm_CH_dealt.locals := by decide
theorem rm_ok_CH_dealt_Dealer_deal : rm_Dealer_deal.cells = 0 ∧ rm_Dealer_deal.slots = 0 ∧ rm_Dealer_deal.frames + 1 ≤ rm_CH_dealt.frames ∧ 8 + (5 + 11) + rm_Dealer_deal.locals ≤ rm_CH_dealt.locals := by decide
set_option maxHeartbeats 4000000 in
set_option maxRecDepth 100000 in
theorem k_CH_dealt_b0 {p : Program} {l : Launch} {e : Env} {s : State} {m : MethodId} {args : Array Value} {below : List Frame} {meth : Method} {c : Code} {dC : Nat → ClassId} {dI : Nat → Nat → Nat} {cy : Nat → ClassId} {A : Nat → Prop} {o0 : Nat} {a0 : Nat → Nat} {a1 : Nat → Nat} {a2 : Nat → Nat} {N : Nat} {y : Int32 × zSt × zSt} (C0 : zCx p s m args meth c cX10_dealt 2 (some .int) RX10 (dC, dI) cy) (s0 : zSt) (s1 : zSt) (s2 : zSt) (v1 : Int32) (hA : ∀ q, s.heap.size ≤ q → A q) {H : Heap} {locs : List Loc} (hP : va_P (dC, dI) vwCl (wd_CH_dealt cy o0 a0 (zI s0) (zL s0) (zA s0 10) a1 (zI s1) (zL s1) (zA s1 6) a2 (zI s2) (zL s2) (zA s2 2)) H) (hD : va_D A (wd_CH_dealt cy o0 a0 (zI s0) (zL s0) (zA s0 10) a1 (zI s1) (zL s1) (zA s1 6) a2 (zI s2) (zL s2) (zA s2 2))) (hS : va_S A s.heap H locs) (hf : CH_dealt_b0 N s0 s1 s2 v1 = some y) (ls : Array Slot) (hl : lv_has ls 2 [(0, .ref o0), (1, .int v1)]) : W p l e rm_CH_dealt s m args below meth c H locs 0 0 (MQ below (zQi y.1 (dC, dI) cy (wd_CH_dealt cy o0 a0 (zI y.2.1) (zL y.2.1) (zA y.2.1 10) a1 (zI s1) (zL s1) (zA s1 6) a2 (zI y.2.2) (zL y.2.2) (zA y.2.2 2)) A) args s 0 0 A) (F0 m 0 ls []) := by
  obtain ⟨hx, hb, hr, hml, hown, hT, hk, hK⟩ := id C0
  refine lv_aload_n hx hb dX10_dealt_0 rfl (lv_at hl 0 rfl) ?_
  refine lv_iconst (v := 0) hx hb dX10_dealt_1 (by decide) ?_
  refine zput (fs' := fs_CH a0 (upd (zI s0) 11 0) (zL s0)) (ws' := (wd_CH_dealt cy o0 a0 (upd (zI s0) 11 0) (zL s0) (zA s0 10) a1 (zI s1) (zL s1) (zA s1 6) a2 (zI s2) (zL s2) (zA s2 2))) hx hb hown hT hK hP hD hS inX10 rfl smX10 tyX10_ok nmX10 0 rfl 11 (by decide) tb_442 rfl rfl rfl (Nat.le_of_ble_eq_true rfl) rfl rfl dX10_dealt_2 (fun H locs hP hD hS => ?_)
  refine lv_iload_n hx hb dX10_dealt_5 rfl (lv_at hl 1 rfl) ?_
  refine lv_iconst (v := 1) hx hb dX10_dealt_6 (by decide) ?_
  refine lv_iconst (v := 2) hx hb dX10_dealt_7 (by decide) ?_
  obtain ⟨z1, hc2, hf⟩ := zbd_some hf
  refine zri (zS (As := [.int v1, .int 1, .int 2]) hx hb hml hown hT hl.1 (c_CH_within v1 1 2 hc2) zY_CH_within tb_495 (zpS hK hP [] rfl) rm_ok_CH_dealt_CH_within rfl rfl (Nat.le_of_ble_eq_true rfl) dX10_dealt_8 ⟨Nat.zero_le _, Nat.zero_le _⟩) ?_
  refine lv_if_ne (tgt := 16) hx hb dX10_dealt_11 (by decide) (fun hb_3 => ?_) (fun hb_3 => ?_)
  · have hf := zif_f hb_3 hf
    refine lv_aload_n hx hb dX10_dealt_16 rfl (lv_at hl 0 rfl) ?_
    refine zget (v := .ref (a0 3)) hx hb hown hT hK hP inX10 rfl smX10 0 rfl 3 (by decide) tb_434 rfl dX10_dealt_17 ?_
    refine zget (v := .int (zI s1 9)) hx hb hown hT hK hP inX9 rfl smX9 2 rfl 9 (by decide) tb_125 rfl dX10_dealt_20 ?_
    refine lv_bipush (v := 8) hx hb dX10_dealt_23 (by decide) ?_
    refine lv_icmp_le (tgt := 31) hx hb dX10_dealt_25 (by decide) (fun hb_4 => ?_) (fun hb_4 => ?_)
    · have hf := zif_t hb_4 hf
      refine lv_aload_n hx hb dX10_dealt_31 rfl (lv_at hl 0 rfl) ?_
      refine lv_aload_n hx hb dX10_dealt_32 rfl (lv_at hl 0 rfl) ?_
      refine zget (v := .ref (a0 3)) hx hb hown hT hK hP inX10 rfl smX10 0 rfl 3 (by decide) tb_434 rfl dX10_dealt_33 ?_
      refine zget (v := .int (zI s1 9)) hx hb hown hT hK hP inX9 rfl smX9 2 rfl 9 (by decide) tb_125 rfl dX10_dealt_36 ?_
      refine zput (fs' := fs_CH a0 (upd (upd (zI s0) 11 0) 11 (zI s1 9)) (zL s0)) (ws' := (wd_CH_dealt cy o0 a0 (upd (upd (zI s0) 11 0) 11 (zI s1 9)) (zL s0) (zA s0 10) a1 (zI s1) (zL s1) (zA s1 6) a2 (zI s2) (zL s2) (zA s2 2))) hx hb hown hT hK hP hD hS inX10 rfl smX10 tyX10_ok nmX10 0 rfl 11 (by decide) tb_442 rfl rfl rfl (Nat.le_of_ble_eq_true rfl) rfl rfl dX10_dealt_39 (fun H locs hP hD hS => ?_)
      refine lv_aload_n hx hb dX10_dealt_42 rfl (lv_at hl 0 rfl) ?_
      refine zget (v := .ref (a0 16)) hx hb hown hT hK hP inX10 rfl smX10 0 rfl 16 (by decide) tb_447 rfl dX10_dealt_43 ?_
      refine lv_aload_n hx hb dX10_dealt_46 rfl (lv_at hl 0 rfl) ?_
      refine zget (v := .ref (a0 3)) hx hb hown hT hK hP inX10 rfl smX10 0 rfl 3 (by decide) tb_434 rfl dX10_dealt_47 ?_
      refine lv_iload_n hx hb dX10_dealt_50 rfl (lv_at hl 1 rfl) ?_
      refine lv_aload_n hx hb dX10_dealt_51 rfl (lv_at hl 0 rfl) ?_
      refine zget (v := .ref (a0 10)) hx hb hown hT hK hP inX10 rfl smX10 0 rfl 10 (by decide) tb_441 rfl dX10_dealt_52 ?_
      obtain ⟨z5, hc6, hf⟩ := zbd_some hf
      refine zwi (wr := [(o0, .inr (10, fs_CH a0 (upd (upd (zI s0) 11 0) 11 (zI s1 9)) (zL s0)))]) (ws' := (wd_CH_dealt cy o0 a0 (upd (upd (zI s0) 11 0) 11 (zI s1 9)) (zL s0) z5.2.2 a1 (zI s1) (zL s1) (zA s1 6) a2 (zI z5.2.1) (zL z5.2.1) (zA z5.2.1 2))) (zV (As := [.ref (a0 3), .int v1, .ref (a0 10)]) hx hb hml hown hT hl.1 (c_Dealer_deal (a0 16) a2 s2 (a0 3) a1 s1 (a0 10) 8 (zA s0 10) v1 hc6) zY_Dealer_deal tb_930 (zpRw hK hP hD [4, 5, 2, 3, 1] (by decide) rfl 0 2 rfl rfl rfl rfl) rm_ok_CH_dealt_Dealer_deal rfl rfl (Nat.le_of_ble_eq_true rfl) dX10_dealt_55 ⟨Nat.zero_le _, Nat.zero_le _⟩) hP hD hS hA [4, 5, 2, 3, 1] [0] [0, 5, 3, 4, 1, 2] rfl rfl (by decide) (by decide) (by decide) rfl rfl (fun H locs hP hD hS => ?_)
      cases hf
      exact zewi hx hb hr hk hK hP hD hS dX10_dealt_58
    · have hf := zif_f hb_4 hf
      refine lv_bipush (v := (-2)) hx hb dX10_dealt_28 (by decide) ?_
      cases hf
      exact zewi hx hb hr hk hK hP hD hS dX10_dealt_30
  · have hf := zif_t hb_3 hf
    refine lv_iconst (v := (-1)) hx hb dX10_dealt_14 (by decide) ?_
    cases hf
    exact zewi hx hb hr hk hK hP hD hS dX10_dealt_15
set_option maxHeartbeats 4000000 in
set_option maxRecDepth 100000 in
theorem c_CH_dealt {l : Launch} {dC : Nat → ClassId} {dI : Nat → Nat → Nat} {cy : Nat → ClassId} {sz : Nat} {N : Nat} (o0 : Nat) (a0 : Nat → Nat) (s0 : zSt) (a1 : Nat → Nat) (s1 : zSt) (a2 : Nat → Nat) (s2 : zSt) (v1 : Int32) {y : Int32 × zSt × zSt} (hf : CH_dealt N s0 s1 s2 v1 = some y) : Met l yX10_dealt (.code yX10_dealt cX10_dealt 2 (some .int) :: zt) rm_CH_dealt (va_Pc [.ref o0, .int v1] (zPre (dC, dI) cy (wd_CH_dealt cy o0 a0 (zI s0) (zL s0) (zA s0 10) a1 (zI s1) (zL s1) (zA s1 6) a2 (zI s2) (zL s2) (zA s2 2)) sz)) (zQi y.1 (dC, dI) cy (wd_CH_dealt cy o0 a0 (zI y.2.1) (zL y.2.1) (zA y.2.1 10) a1 (zI s1) (zL s1) (zA s1 6) a2 (zI y.2.2) (zL y.2.2) (zA y.2.2 2)) (va_A (wd_CH_dealt cy o0 a0 (zI s0) (zL s0) (zA s0 10) a1 (zI s1) (zL s1) (zA s1 6) a2 (zI s2) (zL s2) (zA s2 2)) sz)) 0 0 (va_A (wd_CH_dealt cy o0 a0 (zI s0) (zL s0) (zA s0 10) a1 (zI s1) (zL s1) (zA s1 6) a2 (zI s2) (zL s2) (zA s2 2)) sz) :=
  zentW (Qw := fun A => (zQi y.1 (dC, dI) cy (wd_CH_dealt cy o0 a0 (zI y.2.1) (zL y.2.1) (zA y.2.1 10) a1 (zI s1) (zL s1) (zA s1 6) a2 (zI y.2.2) (zL y.2.2) (zA y.2.2 2)) A)) (by decide +kernel) (Nat.le_of_ble_eq_true rfl) (fun p e s m below meth c A C0 hA hP hD hS ls hl => k_CH_dealt_b0 C0 s0 s1 s2 v1 hA hP hD hS hf ls hl)
def wd_CH_lies (cy : Nat → ClassId) (o0 : Nat) (a0 : Nat → Nat) (g0 : Nat → Int32) (h0 : Nat → Int64) (x0_10 : Nat → Int32) : va_W := [(o0, .inr (10, fs_CH a0 g0 h0)), (a0 10, .inl (cy 0, 8, .inl x0_10))]
def rm_CH_lies : Room := { frames := 2, cells := 0, slots := 0, locals := 62 }
theorem rm_ok_CH_lies_CH_within : rm_CH_within.cells = 0 ∧ rm_CH_within.slots = 0 ∧ rm_CH_within.frames + 1 ≤ rm_CH_lies.frames ∧ 8 + (3 + 11) + rm_CH_within.locals ≤ rm_CH_lies.locals := by decide
set_option maxHeartbeats 4000000 in
set_option maxRecDepth 100000 in
theorem k_CH_lies_b0 {p : Program} {l : Launch} {e : Env} {s : State} {m : MethodId} {args : Array Value} {below : List Frame} {meth : Method} {c : Code} {dC : Nat → ClassId} {dI : Nat → Nat → Nat} {cy : Nat → ClassId} {o0 : Nat} {a0 : Nat → Nat} {N : Nat} {y : Int32} (C0 : zCx p s m args meth c cX10_lies 2 (some .int) RX10 (dC, dI) cy) (s0 : zSt) (v1 : Int32) (hP : va_P (dC, dI) vwCl (wd_CH_lies cy o0 a0 (zI s0) (zL s0) (zA s0 10)) s.heap) (hf : CH_lies_b0 N s0 v1 = some y) (ls : Array Slot) (hl : lv_has ls 2 [(0, .ref o0), (1, .int v1)]) : W p l e rm_CH_lies s m args below meth c s.heap [] 0 0 (MQ below (zSi y) args s 0 0 (fun _ => False)) (F0 m 0 ls []) := by
  obtain ⟨hx, hb, hr, hml, hown, hT, hk, hK⟩ := id C0
  refine lv_iload_n hx hb dX10_lies_0 rfl (lv_at hl 1 rfl) ?_
  refine lv_iconst (v := 0) hx hb dX10_lies_1 (by decide) ?_
  refine lv_aload_n hx hb dX10_lies_2 rfl (lv_at hl 0 rfl) ?_
  refine zget (v := .int (zI s0 11)) hx hb hown hT hK hP inX10 rfl smX10 0 rfl 11 (by decide) tb_442 rfl dX10_lies_3 ?_
  refine lv_iconst (v := 1) hx hb dX10_lies_6 (by decide) ?_
  refine lv_isub hx hb dX10_lies_7 ?_
  obtain ⟨z1, hc2, hf⟩ := zbd_some hf
  refine zri (zS (As := [.int v1, .int 0, .int ((zI s0 11) - 1)]) hx hb hml hown hT hl.1 (c_CH_within v1 0 ((zI s0 11) - 1) hc2) zY_CH_within tb_495 (zpS hK hP [] rfl) rm_ok_CH_lies_CH_within rfl rfl (Nat.le_of_ble_eq_true rfl) dX10_lies_8 ⟨Nat.zero_le _, Nat.zero_le _⟩) ?_
  refine lv_if_eq (tgt := 23) hx hb dX10_lies_11 (by decide) (fun hb_3 => ?_) (fun hb_3 => ?_)
  · have hf := zif_t hb_3 hf
    refine lv_iconst (v := (-1)) hx hb dX10_lies_23 (by decide) ?_
    cases hf
    exact zeri hx hb hr hk dX10_lies_24
  · have hf := zif_f hb_3 hf
    refine lv_aload_n hx hb dX10_lies_14 rfl (lv_at hl 0 rfl) ?_
    refine zget (v := .ref (a0 10)) hx hb hown hT hK hP inX10 rfl smX10 0 rfl 10 (by decide) tb_441 rfl dX10_lies_15 ?_
    refine lv_iload_n hx hb dX10_lies_18 rfl (lv_at hl 1 rfl) ?_
    obtain ⟨hi4, hf⟩ := zck_some hf
    refine va_iald hx hb hK.1 hP 1 0 rfl rfl hi4 dX10_lies_19 ?_
    refine lv_goto (tgt := 24) hx hb dX10_lies_20 (by decide) ?_
    cases hf
    exact zeri hx hb hr hk dX10_lies_24
set_option maxHeartbeats 4000000 in
set_option maxRecDepth 100000 in
theorem c_CH_lies {l : Launch} {dC : Nat → ClassId} {dI : Nat → Nat → Nat} {cy : Nat → ClassId} {N : Nat} (o0 : Nat) (a0 : Nat → Nat) (s0 : zSt) (v1 : Int32) {y : Int32} (hf : CH_lies N s0 v1 = some y) : Met l yX10_lies (.code yX10_lies cX10_lies 2 (some .int) :: zt) rm_CH_lies (va_Pc [.ref o0, .int v1] (zRd (dC, dI) cy (wd_CH_lies cy o0 a0 (zI s0) (zL s0) (zA s0 10)))) (zSi y) 0 0 (fun _ => False) :=
  zentR (by decide +kernel) (Nat.le_of_ble_eq_true rfl) (fun p e s m below meth c C0 hP ls hl => k_CH_lies_b0 C0 s0 v1 hP hf ls hl)
def wd_CH_fresh (cy : Nat → ClassId) (o0 : Nat) (a0 : Nat → Nat) (g0 : Nat → Int32) (h0 : Nat → Int64) (a1 : Nat → Nat) (g1 : Nat → Int32) (h1 : Nat → Int64) (x1_5 : Nat → Int32) (x1_6 : Nat → Int32) (x1_10 : Nat → Int32) : va_W := [(o0, .inr (10, fs_CH a0 g0 h0)), ((a0 3), .inr (9, fs_Valley a1 g1 h1)), (a1 5, .inl (cy 0, 11, .inl x1_5)), (a1 6, .inl (cy 0, 11, .inl x1_6)), (a1 10, .inl (cy 0, 11, .inl x1_10))]
def rm_CH_fresh : Room := { frames := 3, cells := 0, slots := 0, locals := 86 }
theorem rm_ok_CH_fresh_CH_within : rm_CH_within.cells = 0 ∧ rm_CH_within.slots = 0 ∧ rm_CH_within.frames + 1 ≤ rm_CH_fresh.frames ∧ 8 + (3 + 11) + rm_CH_within.locals ≤ rm_CH_fresh.locals := by decide
theorem rm_ok_CH_fresh_Valley_eachIsKnown : rm_Valley_eachIsKnown.cells = 0 ∧ rm_Valley_eachIsKnown.slots = 0 ∧ rm_Valley_eachIsKnown.frames + 1 ≤ rm_CH_fresh.frames ∧ 8 + (4 + 11) + rm_Valley_eachIsKnown.locals ≤ rm_CH_fresh.locals := by decide
theorem rm_ok_CH_fresh_Valley_farFrom : rm_Valley_farFrom.cells = 0 ∧ rm_Valley_farFrom.slots = 0 ∧ rm_Valley_farFrom.frames + 1 ≤ rm_CH_fresh.frames ∧ 8 + (6 + 11) + rm_Valley_farFrom.locals ≤ rm_CH_fresh.locals := by decide
theorem rm_ok_CH_fresh_Valley_hasBeast : rm_Valley_hasBeast.cells = 0 ∧ rm_Valley_hasBeast.slots = 0 ∧ rm_Valley_hasBeast.frames + 1 ≤ rm_CH_fresh.frames ∧ 8 + (4 + 11) + rm_Valley_hasBeast.locals ≤ rm_CH_fresh.locals := by decide
theorem rm_ok_CH_fresh_Valley_withThoseBeside : rm_Valley_withThoseBeside.cells = 0 ∧ rm_Valley_withThoseBeside.slots = 0 ∧ rm_Valley_withThoseBeside.frames + 1 ≤ rm_CH_fresh.frames ∧ 8 + (4 + 11) + rm_Valley_withThoseBeside.locals ≤ rm_CH_fresh.locals := by decide
set_option maxHeartbeats 4000000 in
set_option maxRecDepth 100000 in
theorem k_CH_fresh_b104 {p : Program} {l : Launch} {e : Env} {s : State} {m : MethodId} {args : Array Value} {below : List Frame} {meth : Method} {c : Code} {dC : Nat → ClassId} {dI : Nat → Nat → Nat} {cy : Nat → ClassId} {o0 : Nat} {a0 : Nat → Nat} {a1 : Nat → Nat} {N : Nat} {kh57 : Int32 → Int32 → Int32 → Option (Int32)} {y : Int32} (C0 : zCx p s m args meth c cX10_fresh 8 (some .int) RX10 (dC, dI) cy) (s0 : zSt) (s1 : zSt) (v1 : Int32) (v3 : Int32) (v4 : Int32) (v5 : Int32) (v6 : Int32) (hk57 : ∀ (v4 : Int32) (v5 : Int32) (v6 : Int32) (_ : kh57 v4 v5 v6 = some y) (ls : Array Slot) (_ : lv_has ls 8 [(0, .ref o0), (1, .int v1), (3, .int v3), (4, .int v4), (5, .int v5), (6, .int v6)]), W p l e rm_CH_fresh s m args below meth c s.heap [] 0 0 (MQ below (zSi y) args s 0 0 (fun _ => False)) (F0 m 57 ls [])) (hP : va_P (dC, dI) vwCl (wd_CH_fresh cy o0 a0 (zI s0) (zL s0) a1 (zI s1) (zL s1) (zA s1 5) (zA s1 6) (zA s1 10)) s.heap) (hf : CH_fresh_b104 N kh57 s0 s1 v1 v3 v4 v5 v6 = some y) (ls : Array Slot) (hl : lv_has ls 8 [(0, .ref o0), (1, .int v1), (3, .int v3), (4, .int v4), (5, .int v5), (6, .int v6)]) : W p l e rm_CH_fresh s m args below meth c s.heap [] 0 0 (MQ below (zSi y) args s 0 0 (fun _ => False)) (F0 m 104 ls []) := by
  obtain ⟨hx, hb, hr, hml, hown, hT, hk, hK⟩ := id C0
  refine lv_iinc (v := v6 + 1) (lv' := [(6, .int (v6 + 1)), (0, .ref o0), (1, .int v1), (3, .int v3), (4, .int v4), (5, .int v5)]) hx hb dX10_fresh_104 hl (k := 5) rfl rfl (by decide) rfl (fun ls hl => ?_)
  refine lv_goto (tgt := 57) hx hb dX10_fresh_107 (by decide) ?_
  exact hk57 v4 v5 (v6 + 1) hf _ (lv_sub hl [1, 2, 3, 4, 5, 0] rfl)
set_option maxHeartbeats 4000000 in
set_option maxRecDepth 100000 in
theorem k_CH_fresh_b57 {p : Program} {l : Launch} {e : Env} {s : State} {m : MethodId} {args : Array Value} {below : List Frame} {meth : Method} {c : Code} {dC : Nat → ClassId} {dI : Nat → Nat → Nat} {cy : Nat → ClassId} {o0 : Nat} {a0 : Nat → Nat} {a1 : Nat → Nat} {N : Nat} {kh57 : Int32 → Int32 → Int32 → Option (Int32)} {y : Int32} (C0 : zCx p s m args meth c cX10_fresh 8 (some .int) RX10 (dC, dI) cy) (s0 : zSt) (s1 : zSt) (v1 : Int32) (v3 : Int32) (v4 : Int32) (v5 : Int32) (v6 : Int32) (hk57 : ∀ (v4 : Int32) (v5 : Int32) (v6 : Int32) (_ : kh57 v4 v5 v6 = some y) (ls : Array Slot) (_ : lv_has ls 8 [(0, .ref o0), (1, .int v1), (3, .int v3), (4, .int v4), (5, .int v5), (6, .int v6)]), W p l e rm_CH_fresh s m args below meth c s.heap [] 0 0 (MQ below (zSi y) args s 0 0 (fun _ => False)) (F0 m 57 ls [])) (hP : va_P (dC, dI) vwCl (wd_CH_fresh cy o0 a0 (zI s0) (zL s0) a1 (zI s1) (zL s1) (zA s1 5) (zA s1 6) (zA s1 10)) s.heap) (hf : CH_fresh_b57 N kh57 s0 s1 v1 v3 v4 v5 v6 = some y) (ls : Array Slot) (hl : lv_has ls 8 [(0, .ref o0), (1, .int v1), (3, .int v3), (4, .int v4), (5, .int v5), (6, .int v6)]) : W p l e rm_CH_fresh s m args below meth c s.heap [] 0 0 (MQ below (zSi y) args s 0 0 (fun _ => False)) (F0 m 57 ls []) := by
  obtain ⟨hx, hb, hr, hml, hown, hT, hk, hK⟩ := id C0
  refine lv_iload hx hb dX10_fresh_57 (lv_at hl 5 rfl) ?_
  refine lv_bipush (v := 12) hx hb dX10_fresh_59 (by decide) ?_
  refine lv_icmp_ge (tgt := 110) hx hb dX10_fresh_61 (by decide) (fun hb_1 => ?_) (fun hb_1 => ?_)
  · have hf := zif_t hb_1 hf
    refine lv_iload hx hb dX10_fresh_110 (lv_at hl 3 rfl) ?_
    cases hf
    exact zeri hx hb hr hk dX10_fresh_112
  · have hf := zif_f hb_1 hf
    refine lv_aload_n hx hb dX10_fresh_64 rfl (lv_at hl 0 rfl) ?_
    refine zget (v := .ref (a0 3)) hx hb hown hT hK hP inX10 rfl smX10 0 rfl 3 (by decide) tb_434 rfl dX10_fresh_65 ?_
    refine lv_iload hx hb dX10_fresh_68 (lv_at hl 5 rfl) ?_
    refine lv_iload_n hx hb dX10_fresh_70 rfl (lv_at hl 2 rfl) ?_
    obtain ⟨z2, hc3, hf⟩ := zbd_some hf
    refine zri (zV (As := [.int v6, .int v3]) hx hb hml hown hT hl.1 (c_Valley_farFrom (a0 3) a1 s1 v6 v3 hc3) zY_Valley_farFrom tb_970 (zpR hK hP [1, 2] rfl 0 9 rfl rfl rfl) rm_ok_CH_fresh_Valley_farFrom rfl rfl (Nat.le_of_ble_eq_true rfl) dX10_fresh_71 ⟨Nat.zero_le _, Nat.zero_le _⟩) ?_
    refine lv_istore (lv' := [(7, .int z2), (0, .ref o0), (1, .int v1), (3, .int v3), (4, .int v4), (5, .int v5), (6, .int v6)]) hx hb dX10_fresh_74 hl (by decide) rfl (fun ls hl => ?_)
    refine lv_iload hx hb dX10_fresh_76 (lv_at hl 0 rfl) ?_
    refine lv_iload hx hb dX10_fresh_78 (lv_at hl 5 rfl) ?_
    refine lv_icmp_le (tgt := 104) hx hb dX10_fresh_80 (by decide) (fun hb_4 => ?_) (fun hb_4 => ?_)
    · have hf := zif_t hb_4 hf
      exact k_CH_fresh_b104 C0 s0 s1 v1 v3 v4 v5 v6 hk57 hP hf _ (lv_sub hl [1, 2, 3, 4, 5, 6] rfl)
    · have hf := zif_f hb_4 hf
      refine lv_aload_n hx hb dX10_fresh_83 rfl (lv_at hl 1 rfl) ?_
      refine zget (v := .ref (a0 3)) hx hb hown hT hK hP inX10 rfl smX10 0 rfl 3 (by decide) tb_434 rfl dX10_fresh_84 ?_
      refine lv_iload hx hb dX10_fresh_87 (lv_at hl 6 rfl) ?_
      refine lv_iload_n hx hb dX10_fresh_89 rfl (lv_at hl 2 rfl) ?_
      obtain ⟨z5, hc6, hf⟩ := zbd_some hf
      refine zri (zV (As := [.int v6, .int v1]) hx hb hml hown hT hl.1 (c_Valley_hasBeast (a0 3) a1 s1 v6 v1 hc6) zY_Valley_hasBeast tb_975 (zpR hK hP [1, 2, 3] rfl 0 9 rfl rfl rfl) rm_ok_CH_fresh_Valley_hasBeast rfl rfl (Nat.le_of_ble_eq_true rfl) dX10_fresh_90 ⟨Nat.zero_le _, Nat.zero_le _⟩) ?_
      refine lv_if_ne (tgt := 104) hx hb dX10_fresh_93 (by decide) (fun hb_7 => ?_) (fun hb_7 => ?_)
      · have hf := zif_f hb_7 hf
        exact k_CH_fresh_b104 C0 s0 s1 v1 v3 v4 v5 v6 hk57 hP hf _ (lv_sub hl [1, 2, 3, 4, 5, 6] rfl)
      · have hf := zif_t hb_7 hf
        refine lv_iload hx hb dX10_fresh_96 (lv_at hl 6 rfl) ?_
        refine lv_istore (lv' := [(4, .int v6), (7, .int z2), (0, .ref o0), (1, .int v1), (3, .int v3), (5, .int v5), (6, .int v6)]) hx hb dX10_fresh_98 hl (by decide) rfl (fun ls hl => ?_)
        refine lv_iload hx hb dX10_fresh_100 (lv_at hl 1 rfl) ?_
        refine lv_istore (lv' := [(5, .int z2), (4, .int v6), (7, .int z2), (0, .ref o0), (1, .int v1), (3, .int v3), (6, .int v6)]) hx hb dX10_fresh_102 hl (by decide) rfl (fun ls hl => ?_)
        exact k_CH_fresh_b104 C0 s0 s1 v1 v3 v6 z2 v6 hk57 hP hf _ (lv_sub hl [3, 4, 5, 1, 0, 6] rfl)
set_option maxHeartbeats 4000000 in
set_option maxRecDepth 100000 in
theorem k_CH_fresh_h57 {p : Program} {l : Launch} {e : Env} {s : State} {m : MethodId} {args : Array Value} {below : List Frame} {meth : Method} {c : Code} {dC : Nat → ClassId} {dI : Nat → Nat → Nat} {cy : Nat → ClassId} {o0 : Nat} {a0 : Nat → Nat} {a1 : Nat → Nat} {N : Nat} {y : Int32} (C0 : zCx p s m args meth c cX10_fresh 8 (some .int) RX10 (dC, dI) cy) (s0 : zSt) (s1 : zSt) (v1 : Int32) (v3 : Int32) (hP : va_P (dC, dI) vwCl (wd_CH_fresh cy o0 a0 (zI s0) (zL s0) a1 (zI s1) (zL s1) (zA s1 5) (zA s1 6) (zA s1 10)) s.heap) : ∀ (n : Nat) (v4 : Int32) (v5 : Int32) (v6 : Int32) (hf : CH_fresh_h57 N s0 s1 v1 v3 n v4 v5 v6 = some y) (ls : Array Slot) (hl : lv_has ls 8 [(0, .ref o0), (1, .int v1), (3, .int v3), (4, .int v4), (5, .int v5), (6, .int v6)]), W p l e rm_CH_fresh s m args below meth c s.heap [] 0 0 (MQ below (zSi y) args s 0 0 (fun _ => False)) (F0 m 57 ls []) := by
  intro n
  induction n with
  | zero => intro v4 v5 v6 hf; cases hf
  | succ n ih =>
    intro v4 v5 v6 hf ls hl
    have hf : CH_fresh_b57 N (CH_fresh_h57 N s0 s1 v1 v3 n) s0 s1 v1 v3 v4 v5 v6 = some y := hf
    exact k_CH_fresh_b57 C0 s0 s1 v1 v3 v4 v5 v6 (fun v4 v5 v6 hf ls hl => ih v4 v5 v6 hf ls hl) hP hf ls hl
set_option maxHeartbeats 4000000 in
set_option maxRecDepth 100000 in
theorem k_CH_fresh_b0 {p : Program} {l : Launch} {e : Env} {s : State} {m : MethodId} {args : Array Value} {below : List Frame} {meth : Method} {c : Code} {dC : Nat → ClassId} {dI : Nat → Nat → Nat} {cy : Nat → ClassId} {o0 : Nat} {a0 : Nat → Nat} {a1 : Nat → Nat} {N : Nat} {y : Int32} (C0 : zCx p s m args meth c cX10_fresh 8 (some .int) RX10 (dC, dI) cy) (s0 : zSt) (s1 : zSt) (v1 : Int32) (v2 : Int32) (hP : va_P (dC, dI) vwCl (wd_CH_fresh cy o0 a0 (zI s0) (zL s0) a1 (zI s1) (zL s1) (zA s1 5) (zA s1 6) (zA s1 10)) s.heap) (hf : CH_fresh_b0 N s0 s1 v1 v2 = some y) (ls : Array Slot) (hl : lv_has ls 8 [(0, .ref o0), (1, .int v1), (2, .int v2)]) : W p l e rm_CH_fresh s m args below meth c s.heap [] 0 0 (MQ below (zSi y) args s 0 0 (fun _ => False)) (F0 m 0 ls []) := by
  obtain ⟨hx, hb, hr, hml, hown, hT, hk, hK⟩ := id C0
  refine lv_iload_n hx hb dX10_fresh_0 rfl (lv_at hl 1 rfl) ?_
  refine lv_iconst (v := 1) hx hb dX10_fresh_1 (by decide) ?_
  refine lv_bipush (v := 99) hx hb dX10_fresh_2 (by decide) ?_
  obtain ⟨z1, hc2, hf⟩ := zbd_some hf
  refine zri (zS (As := [.int v1, .int 1, .int 99]) hx hb hml hown hT hl.1 (c_CH_within v1 1 99 hc2) zY_CH_within tb_495 (zpS hK hP [] rfl) rm_ok_CH_fresh_CH_within rfl rfl (Nat.le_of_ble_eq_true rfl) dX10_fresh_4 ⟨Nat.zero_le _, Nat.zero_le _⟩) ?_
  refine lv_if_eq (tgt := 24) hx hb dX10_fresh_7 (by decide) (fun hb_3 => ?_) (fun hb_3 => ?_)
  · have hf := zif_t hb_3 hf
    refine lv_bipush (v := (-2)) hx hb dX10_fresh_24 (by decide) ?_
    cases hf
    exact zeri hx hb hr hk dX10_fresh_26
  · have hf := zif_f hb_3 hf
    refine lv_iload_n hx hb dX10_fresh_10 rfl (lv_at hl 2 rfl) ?_
    refine lv_aload_n hx hb dX10_fresh_11 rfl (lv_at hl 0 rfl) ?_
    refine zget (v := .ref (a0 3)) hx hb hown hT hK hP inX10 rfl smX10 0 rfl 3 (by decide) tb_434 rfl dX10_fresh_12 ?_
    refine zget (v := .int (zI s1 8)) hx hb hown hT hK hP inX9 rfl smX9 1 rfl 8 (by decide) tb_122 rfl dX10_fresh_15 ?_
    refine lv_iconst (v := (-1)) hx hb dX10_fresh_18 (by decide) ?_
    refine lv_ixor hx hb dX10_fresh_19 ?_
    refine lv_iand hx hb dX10_fresh_20 ?_
    refine lv_if_eq (tgt := 27) hx hb dX10_fresh_21 (by decide) (fun hb_4 => ?_) (fun hb_4 => ?_)
    · have hf := zif_t hb_4 hf
      refine lv_aload_n hx hb dX10_fresh_27 rfl (lv_at hl 0 rfl) ?_
      refine zget (v := .ref (a0 3)) hx hb hown hT hK hP inX10 rfl smX10 0 rfl 3 (by decide) tb_434 rfl dX10_fresh_28 ?_
      obtain ⟨z5, hc6, hf⟩ := zbd_some hf
      refine zri (zV (As := []) hx hb hml hown hT hl.1 (c_Valley_eachIsKnown (a0 3) a1 s1 hc6) zY_Valley_eachIsKnown tb_961 (zpR hK hP [1, 2, 3] rfl 0 9 rfl rfl rfl) rm_ok_CH_fresh_Valley_eachIsKnown rfl rfl (Nat.le_of_ble_eq_true rfl) dX10_fresh_31 ⟨Nat.zero_le _, Nat.zero_le _⟩) ?_
      refine lv_if_ne (tgt := 39) hx hb dX10_fresh_34 (by decide) (fun hb_7 => ?_) (fun hb_7 => ?_)
      · have hf := zif_f hb_7 hf
        refine lv_aload_n hx hb dX10_fresh_39 rfl (lv_at hl 0 rfl) ?_
        refine zget (v := .ref (a0 3)) hx hb hown hT hK hP inX10 rfl smX10 0 rfl 3 (by decide) tb_434 rfl dX10_fresh_40 ?_
        refine lv_iload_n hx hb dX10_fresh_43 rfl (lv_at hl 2 rfl) ?_
        obtain ⟨z8, hc9, hf⟩ := zbd_some hf
        refine zri (zV (As := [.int v2]) hx hb hml hown hT hl.1 (c_Valley_withThoseBeside (a0 3) a1 s1 v2 hc9) zY_Valley_withThoseBeside tb_966 (zpR hK hP [1, 4] rfl 0 9 rfl rfl rfl) rm_ok_CH_fresh_Valley_withThoseBeside rfl rfl (Nat.le_of_ble_eq_true rfl) dX10_fresh_44 ⟨Nat.zero_le _, Nat.zero_le _⟩) ?_
        refine lv_istore_n (lv' := [(3, .int z8), (0, .ref o0), (1, .int v1), (2, .int v2)]) hx hb dX10_fresh_47 rfl hl (by decide) rfl (fun ls hl => ?_)
        refine lv_iconst (v := (-1)) hx hb dX10_fresh_48 (by decide) ?_
        refine lv_istore (lv' := [(4, .int (-1)), (3, .int z8), (0, .ref o0), (1, .int v1), (2, .int v2)]) hx hb dX10_fresh_49 hl (by decide) rfl (fun ls hl => ?_)
        refine lv_iconst (v := (-1)) hx hb dX10_fresh_51 (by decide) ?_
        refine lv_istore (lv' := [(5, .int (-1)), (4, .int (-1)), (3, .int z8), (0, .ref o0), (1, .int v1), (2, .int v2)]) hx hb dX10_fresh_52 hl (by decide) rfl (fun ls hl => ?_)
        refine lv_iconst (v := 0) hx hb dX10_fresh_54 (by decide) ?_
        refine lv_istore (lv' := [(6, .int 0), (5, .int (-1)), (4, .int (-1)), (3, .int z8), (0, .ref o0), (1, .int v1), (2, .int v2)]) hx hb dX10_fresh_55 hl (by decide) rfl (fun ls hl => ?_)
        exact k_CH_fresh_h57 C0 s0 s1 v1 z8  hP N (-1) (-1) 0 hf _ (lv_sub hl [4, 5, 3, 2, 1, 0] rfl)
      · have hf := zif_t hb_7 hf
        refine lv_iconst (v := (-1)) hx hb dX10_fresh_37 (by decide) ?_
        cases hf
        exact zeri hx hb hr hk dX10_fresh_38
    · have hf := zif_f hb_4 hf
      refine lv_bipush (v := (-2)) hx hb dX10_fresh_24 (by decide) ?_
      cases hf
      exact zeri hx hb hr hk dX10_fresh_26
set_option maxHeartbeats 4000000 in
set_option maxRecDepth 100000 in
theorem c_CH_fresh {l : Launch} {dC : Nat → ClassId} {dI : Nat → Nat → Nat} {cy : Nat → ClassId} {N : Nat} (o0 : Nat) (a0 : Nat → Nat) (s0 : zSt) (a1 : Nat → Nat) (s1 : zSt) (v1 : Int32) (v2 : Int32) {y : Int32} (hf : CH_fresh N s0 s1 v1 v2 = some y) : Met l yX10_fresh (.code yX10_fresh cX10_fresh 8 (some .int) :: zt) rm_CH_fresh (va_Pc [.ref o0, .int v1, .int v2] (zRd (dC, dI) cy (wd_CH_fresh cy o0 a0 (zI s0) (zL s0) a1 (zI s1) (zL s1) (zA s1 5) (zA s1 6) (zA s1 10)))) (zSi y) 0 0 (fun _ => False) :=
  zentR (by decide +kernel) (Nat.le_of_ble_eq_true rfl) (fun p e s m below meth c C0 hP ls hl => k_CH_fresh_b0 C0 s0 s1 v1 v2 hP hf ls hl)
def wd_CH_image (cy : Nat → ClassId) (o0 : Nat) (a0 : Nat → Nat) (g0 : Nat → Int32) (h0 : Nat → Int64) (b1 : Nat → Nat) (a2 : Nat → Nat) (g2 : Nat → Int32) (h2 : Nat → Int64) (x2_5 : Nat → Int32) (a3 : Nat → Nat) (g3 : Nat → Int32) (h3 : Nat → Int64) (x3_5 : Nat → Int32) (a4 : Nat → Nat) (g4 : Nat → Int32) (h4 : Nat → Int64) (x4_5 : Nat → Int32) (a5 : Nat → Nat) (g5 : Nat → Int32) (h5 : Nat → Int64) (x5_5 : Nat → Int32) : va_W := [(o0, .inr (10, fs_CH a0 g0 h0)), ((a0 6), .inl (cy 4, 3, .inr (.inr (.inr (.inr (zbx b1)))))), ((b1 0), .inr (3, fs_Earnest a2 g2 h2)), (a2 5, .inl (cy 0, 11, .inl x2_5)), ((a0 5), .inr (3, fs_Earnest a3 g3 h3)), (a3 5, .inl (cy 0, 11, .inl x3_5)), ((b1 1), .inr (3, fs_Earnest a4 g4 h4)), (a4 5, .inl (cy 0, 11, .inl x4_5)), ((b1 2), .inr (3, fs_Earnest a5 g5 h5)), (a5 5, .inl (cy 0, 11, .inl x5_5))]
def rm_CH_image : Room := { frames := 2, cells := 0, slots := 0, locals := 62 }
theorem rm_ok_CH_image_CH_within : rm_CH_within.cells = 0 ∧ rm_CH_within.slots = 0 ∧ rm_CH_within.frames + 1 ≤ rm_CH_image.frames ∧ 8 + (3 + 11) + rm_CH_within.locals ≤ rm_CH_image.locals := by decide
theorem rm_ok_CH_image_Earnest_copy : rm_Earnest_copy.cells = 0 ∧ rm_Earnest_copy.slots = 0 ∧ rm_Earnest_copy.frames + 1 ≤ rm_CH_image.frames ∧ 8 + (2 + 11) + rm_Earnest_copy.locals ≤ rm_CH_image.locals := by decide
set_option maxHeartbeats 4000000 in
set_option maxRecDepth 100000 in
theorem k_CH_image_b0 {p : Program} {l : Launch} {e : Env} {s : State} {m : MethodId} {args : Array Value} {below : List Frame} {meth : Method} {c : Code} {dC : Nat → ClassId} {dI : Nat → Nat → Nat} {cy : Nat → ClassId} {A : Nat → Prop} {o0 : Nat} {a0 : Nat → Nat} {b1 : Nat → Nat} {a2 : Nat → Nat} {a3 : Nat → Nat} {a4 : Nat → Nat} {a5 : Nat → Nat} {N : Nat} {y : Int32 × zSt × zSt × zSt × zSt} (C0 : zCx p s m args meth c cX10_image 2 (some .int) RX10 (dC, dI) cy) (s0 : zSt) (s2 : zSt) (s3 : zSt) (s4 : zSt) (s5 : zSt) (v1 : Int32) (hA : ∀ q, s.heap.size ≤ q → A q) {H : Heap} {locs : List Loc} (hP : va_P (dC, dI) vwCl (wd_CH_image cy o0 a0 (zI s0) (zL s0) b1 a2 (zI s2) (zL s2) (zA s2 5) a3 (zI s3) (zL s3) (zA s3 5) a4 (zI s4) (zL s4) (zA s4 5) a5 (zI s5) (zL s5) (zA s5 5)) H) (hD : va_D A (wd_CH_image cy o0 a0 (zI s0) (zL s0) b1 a2 (zI s2) (zL s2) (zA s2 5) a3 (zI s3) (zL s3) (zA s3 5) a4 (zI s4) (zL s4) (zA s4 5) a5 (zI s5) (zL s5) (zA s5 5))) (hS : va_S A s.heap H locs) (hf : CH_image_b0 N s0 s2 s3 s4 s5 v1 = some y) (ls : Array Slot) (hl : lv_has ls 2 [(0, .ref o0), (1, .int v1)]) : W p l e rm_CH_image s m args below meth c H locs 0 0 (MQ below (zQi y.1 (dC, dI) cy (wd_CH_image cy o0 a0 (zI y.2.1) (zL y.2.1) b1 a2 (zI y.2.2.1) (zL y.2.2.1) (zA y.2.2.1 5) a3 (zI s3) (zL s3) (zA s3 5) a4 (zI y.2.2.2.1) (zL y.2.2.2.1) (zA y.2.2.2.1 5) a5 (zI y.2.2.2.2) (zL y.2.2.2.2) (zA y.2.2.2.2 5)) A) args s 0 0 A) (F0 m 0 ls []) := by
  obtain ⟨hx, hb, hr, hml, hown, hT, hk, hK⟩ := id C0
  refine lv_iload_n hx hb dX10_image_0 rfl (lv_at hl 1 rfl) ?_
  refine lv_iconst (v := 0) hx hb dX10_image_1 (by decide) ?_
  refine lv_iconst (v := 2) hx hb dX10_image_2 (by decide) ?_
  obtain ⟨z1, hc2, hf⟩ := zbd_some hf
  refine zri (zS (As := [.int v1, .int 0, .int 2]) hx hb hml hown hT hl.1 (c_CH_within v1 0 2 hc2) zY_CH_within tb_495 (zpS hK hP [] rfl) rm_ok_CH_image_CH_within rfl rfl (Nat.le_of_ble_eq_true rfl) dX10_image_3 ⟨Nat.zero_le _, Nat.zero_le _⟩) ?_
  refine lv_if_ne (tgt := 11) hx hb dX10_image_6 (by decide) (fun hb_3 => ?_) (fun hb_3 => ?_)
  · have hf := zif_f hb_3 hf
    refine lv_aload_n hx hb dX10_image_11 rfl (lv_at hl 0 rfl) ?_
    refine zget (v := .ref (a0 6)) hx hb hown hT hK hP inX10 rfl smX10 0 rfl 6 (by decide) tb_437 rfl dX10_image_12 ?_
    refine lv_iload_n hx hb dX10_image_15 rfl (lv_at hl 1 rfl) ?_
    by_cases he40 : v1 = 0
    · have hf := zif_t he40 hf
      rw [he40]
      refine va_aldq hx hb hK.1 hP 1 4 rfl rfl (by unfold vp_in; decide) dX10_image_16 ?_
      refine lv_aload_n hx hb dX10_image_17 rfl (lv_at hl 0 rfl) ?_
      refine zget (v := .ref (a0 5)) hx hb hown hT hK hP inX10 rfl smX10 0 rfl 5 (by decide) tb_436 rfl dX10_image_18 ?_
      obtain ⟨z5, hc6, hf⟩ := zbd_some hf
      refine zwv (wr := [(o0, .inr (10, fs_CH a0 (zI s0) (zL s0))), ((a0 6), .inl (cy 4, 3, .inr (.inr (.inr (.inr (zbx b1)))))), ((b1 1), .inr (3, fs_Earnest a4 (zI s4) (zL s4))), (a4 5, .inl (cy 0, 11, .inl (zA s4 5))), ((b1 2), .inr (3, fs_Earnest a5 (zI s5) (zL s5))), (a5 5, .inl (cy 0, 11, .inl (zA s5 5)))]) (ws' := (wd_CH_image cy o0 a0 (zI s0) (zL s0) b1 a2 (zI z5) (zL z5) (zA z5 5) a3 (zI s3) (zL s3) (zA s3 5) a4 (zI s4) (zL s4) (zA s4 5) a5 (zI s5) (zL s5) (zA s5 5))) (zV (As := [.ref (a0 5)]) hx hb hml hown hT hl.1 (c_Earnest_copy (b1 0) a2 s2 (a0 5) a3 s3 hc6) zY_Earnest_copy tb_983 (zpRw hK hP hD [2, 3, 4, 5] (by decide) rfl 0 3 rfl rfl rfl rfl) rm_ok_CH_image_Earnest_copy rfl rfl (Nat.le_of_ble_eq_true rfl) dX10_image_21 ⟨Nat.zero_le _, Nat.zero_le _⟩) hP hD hS hA [2, 3, 4, 5] [0, 1, 6, 7, 8, 9] [0, 1, 6, 7, 8, 9, 2, 3, 4, 5] rfl rfl (by decide) (by decide) (by decide) rfl rfl (fun H locs hP hD hS => ?_)
      refine lv_aload_n hx hb dX10_image_24 rfl (lv_at hl 0 rfl) ?_
      refine lv_dup hx hb dX10_image_25 rfl ?_
      refine zget (v := .int (zI s0 7)) hx hb hown hT hK hP inX10 rfl smX10 0 rfl 7 (by decide) tb_438 rfl dX10_image_26 ?_
      refine lv_iconst (v := 1) hx hb dX10_image_29 (by decide) ?_
      refine lv_iload_n hx hb dX10_image_30 rfl (lv_at hl 1 rfl) ?_
      refine lv_ishl hx hb dX10_image_31 ?_
      refine lv_ior hx hb dX10_image_32 ?_
      refine zput (fs' := fs_CH a0 (upd (zI s0) 7 ((zI s0 7) ||| ((1 : Int32) <<< (v1 &&& 31)))) (zL s0)) (ws' := (wd_CH_image cy o0 a0 (upd (zI s0) 7 ((zI s0 7) ||| ((1 : Int32) <<< (v1 &&& 31)))) (zL s0) b1 a2 (zI z5) (zL z5) (zA z5 5) a3 (zI s3) (zL s3) (zA s3 5) a4 (zI s4) (zL s4) (zA s4 5) a5 (zI s5) (zL s5) (zA s5 5))) hx hb hown hT hK hP hD hS inX10 rfl smX10 tyX10_ok nmX10 0 rfl 7 (by decide) tb_438 rfl rfl rfl (Nat.le_of_ble_eq_true rfl) rfl rfl dX10_image_33 (fun H locs hP hD hS => ?_)
      refine lv_aload_n hx hb dX10_image_36 rfl (lv_at hl 0 rfl) ?_
      refine zget (v := .ref (a0 5)) hx hb hown hT hK hP inX10 rfl smX10 0 rfl 5 (by decide) tb_436 rfl dX10_image_37 ?_
      refine zget (v := .int (zI s3 4)) hx hb hown hT hK hP inX3 rfl smX3 4 rfl 4 (by decide) tb_182 rfl dX10_image_40 ?_
      cases hf
      exact zewi hx hb hr hk hK hP hD hS dX10_image_43
    · have hf := zif_f he40 hf
      by_cases he41 : v1 = 1
      · have hf := zif_t he41 hf
        rw [he41]
        refine va_aldq hx hb hK.1 hP 1 4 rfl rfl (by unfold vp_in; decide) dX10_image_16 ?_
        refine lv_aload_n hx hb dX10_image_17 rfl (lv_at hl 0 rfl) ?_
        refine zget (v := .ref (a0 5)) hx hb hown hT hK hP inX10 rfl smX10 0 rfl 5 (by decide) tb_436 rfl dX10_image_18 ?_
        obtain ⟨z7, hc8, hf⟩ := zbd_some hf
        refine zwv (wr := [(o0, .inr (10, fs_CH a0 (zI s0) (zL s0))), ((a0 6), .inl (cy 4, 3, .inr (.inr (.inr (.inr (zbx b1)))))), ((b1 0), .inr (3, fs_Earnest a2 (zI s2) (zL s2))), (a2 5, .inl (cy 0, 11, .inl (zA s2 5))), ((b1 2), .inr (3, fs_Earnest a5 (zI s5) (zL s5))), (a5 5, .inl (cy 0, 11, .inl (zA s5 5)))]) (ws' := (wd_CH_image cy o0 a0 (zI s0) (zL s0) b1 a2 (zI s2) (zL s2) (zA s2 5) a3 (zI s3) (zL s3) (zA s3 5) a4 (zI z7) (zL z7) (zA z7 5) a5 (zI s5) (zL s5) (zA s5 5))) (zV (As := [.ref (a0 5)]) hx hb hml hown hT hl.1 (c_Earnest_copy (b1 1) a4 s4 (a0 5) a3 s3 hc8) zY_Earnest_copy tb_983 (zpRw hK hP hD [6, 7, 4, 5] (by decide) rfl 0 3 rfl rfl rfl rfl) rm_ok_CH_image_Earnest_copy rfl rfl (Nat.le_of_ble_eq_true rfl) dX10_image_21 ⟨Nat.zero_le _, Nat.zero_le _⟩) hP hD hS hA [6, 7, 4, 5] [0, 1, 2, 3, 8, 9] [0, 1, 2, 3, 8, 9, 6, 7, 4, 5] rfl rfl (by decide) (by decide) (by decide) rfl rfl (fun H locs hP hD hS => ?_)
        refine lv_aload_n hx hb dX10_image_24 rfl (lv_at hl 0 rfl) ?_
        refine lv_dup hx hb dX10_image_25 rfl ?_
        refine zget (v := .int (zI s0 7)) hx hb hown hT hK hP inX10 rfl smX10 0 rfl 7 (by decide) tb_438 rfl dX10_image_26 ?_
        refine lv_iconst (v := 1) hx hb dX10_image_29 (by decide) ?_
        refine lv_iload_n hx hb dX10_image_30 rfl (lv_at hl 1 rfl) ?_
        refine lv_ishl hx hb dX10_image_31 ?_
        refine lv_ior hx hb dX10_image_32 ?_
        refine zput (fs' := fs_CH a0 (upd (zI s0) 7 ((zI s0 7) ||| ((1 : Int32) <<< (v1 &&& 31)))) (zL s0)) (ws' := (wd_CH_image cy o0 a0 (upd (zI s0) 7 ((zI s0 7) ||| ((1 : Int32) <<< (v1 &&& 31)))) (zL s0) b1 a2 (zI s2) (zL s2) (zA s2 5) a3 (zI s3) (zL s3) (zA s3 5) a4 (zI z7) (zL z7) (zA z7 5) a5 (zI s5) (zL s5) (zA s5 5))) hx hb hown hT hK hP hD hS inX10 rfl smX10 tyX10_ok nmX10 0 rfl 7 (by decide) tb_438 rfl rfl rfl (Nat.le_of_ble_eq_true rfl) rfl rfl dX10_image_33 (fun H locs hP hD hS => ?_)
        refine lv_aload_n hx hb dX10_image_36 rfl (lv_at hl 0 rfl) ?_
        refine zget (v := .ref (a0 5)) hx hb hown hT hK hP inX10 rfl smX10 0 rfl 5 (by decide) tb_436 rfl dX10_image_37 ?_
        refine zget (v := .int (zI s3 4)) hx hb hown hT hK hP inX3 rfl smX3 4 rfl 4 (by decide) tb_182 rfl dX10_image_40 ?_
        cases hf
        exact zewi hx hb hr hk hK hP hD hS dX10_image_43
      · have hf := zif_f he41 hf
        by_cases he42 : v1 = 2
        · have hf := zif_t he42 hf
          rw [he42]
          refine va_aldq hx hb hK.1 hP 1 4 rfl rfl (by unfold vp_in; decide) dX10_image_16 ?_
          refine lv_aload_n hx hb dX10_image_17 rfl (lv_at hl 0 rfl) ?_
          refine zget (v := .ref (a0 5)) hx hb hown hT hK hP inX10 rfl smX10 0 rfl 5 (by decide) tb_436 rfl dX10_image_18 ?_
          obtain ⟨z9, hc10, hf⟩ := zbd_some hf
          refine zwv (wr := [(o0, .inr (10, fs_CH a0 (zI s0) (zL s0))), ((a0 6), .inl (cy 4, 3, .inr (.inr (.inr (.inr (zbx b1)))))), ((b1 0), .inr (3, fs_Earnest a2 (zI s2) (zL s2))), (a2 5, .inl (cy 0, 11, .inl (zA s2 5))), ((b1 1), .inr (3, fs_Earnest a4 (zI s4) (zL s4))), (a4 5, .inl (cy 0, 11, .inl (zA s4 5)))]) (ws' := (wd_CH_image cy o0 a0 (zI s0) (zL s0) b1 a2 (zI s2) (zL s2) (zA s2 5) a3 (zI s3) (zL s3) (zA s3 5) a4 (zI s4) (zL s4) (zA s4 5) a5 (zI z9) (zL z9) (zA z9 5))) (zV (As := [.ref (a0 5)]) hx hb hml hown hT hl.1 (c_Earnest_copy (b1 2) a5 s5 (a0 5) a3 s3 hc10) zY_Earnest_copy tb_983 (zpRw hK hP hD [8, 9, 4, 5] (by decide) rfl 0 3 rfl rfl rfl rfl) rm_ok_CH_image_Earnest_copy rfl rfl (Nat.le_of_ble_eq_true rfl) dX10_image_21 ⟨Nat.zero_le _, Nat.zero_le _⟩) hP hD hS hA [8, 9, 4, 5] [0, 1, 2, 3, 6, 7] [0, 1, 2, 3, 8, 9, 4, 5, 6, 7] rfl rfl (by decide) (by decide) (by decide) rfl rfl (fun H locs hP hD hS => ?_)
          refine lv_aload_n hx hb dX10_image_24 rfl (lv_at hl 0 rfl) ?_
          refine lv_dup hx hb dX10_image_25 rfl ?_
          refine zget (v := .int (zI s0 7)) hx hb hown hT hK hP inX10 rfl smX10 0 rfl 7 (by decide) tb_438 rfl dX10_image_26 ?_
          refine lv_iconst (v := 1) hx hb dX10_image_29 (by decide) ?_
          refine lv_iload_n hx hb dX10_image_30 rfl (lv_at hl 1 rfl) ?_
          refine lv_ishl hx hb dX10_image_31 ?_
          refine lv_ior hx hb dX10_image_32 ?_
          refine zput (fs' := fs_CH a0 (upd (zI s0) 7 ((zI s0 7) ||| ((1 : Int32) <<< (v1 &&& 31)))) (zL s0)) (ws' := (wd_CH_image cy o0 a0 (upd (zI s0) 7 ((zI s0 7) ||| ((1 : Int32) <<< (v1 &&& 31)))) (zL s0) b1 a2 (zI s2) (zL s2) (zA s2 5) a3 (zI s3) (zL s3) (zA s3 5) a4 (zI s4) (zL s4) (zA s4 5) a5 (zI z9) (zL z9) (zA z9 5))) hx hb hown hT hK hP hD hS inX10 rfl smX10 tyX10_ok nmX10 0 rfl 7 (by decide) tb_438 rfl rfl rfl (Nat.le_of_ble_eq_true rfl) rfl rfl dX10_image_33 (fun H locs hP hD hS => ?_)
          refine lv_aload_n hx hb dX10_image_36 rfl (lv_at hl 0 rfl) ?_
          refine zget (v := .ref (a0 5)) hx hb hown hT hK hP inX10 rfl smX10 0 rfl 5 (by decide) tb_436 rfl dX10_image_37 ?_
          refine zget (v := .int (zI s3 4)) hx hb hown hT hK hP inX3 rfl smX3 4 rfl 4 (by decide) tb_182 rfl dX10_image_40 ?_
          cases hf
          exact zewi hx hb hr hk hK hP hD hS dX10_image_43
        · have hf := zif_f he42 hf
          cases hf
  · have hf := zif_t hb_3 hf
    refine lv_iconst (v := (-1)) hx hb dX10_image_9 (by decide) ?_
    cases hf
    exact zewi hx hb hr hk hK hP hD hS dX10_image_10
set_option maxHeartbeats 4000000 in
set_option maxRecDepth 100000 in
theorem c_CH_image {l : Launch} {dC : Nat → ClassId} {dI : Nat → Nat → Nat} {cy : Nat → ClassId} {sz : Nat} {N : Nat} (o0 : Nat) (a0 : Nat → Nat) (s0 : zSt) (b1 : Nat → Nat) (a2 : Nat → Nat) (s2 : zSt) (a3 : Nat → Nat) (s3 : zSt) (a4 : Nat → Nat) (s4 : zSt) (a5 : Nat → Nat) (s5 : zSt) (v1 : Int32) {y : Int32 × zSt × zSt × zSt × zSt} (hf : CH_image N s0 s2 s3 s4 s5 v1 = some y) : Met l yX10_image (.code yX10_image cX10_image 2 (some .int) :: zt) rm_CH_image (va_Pc [.ref o0, .int v1] (zPre (dC, dI) cy (wd_CH_image cy o0 a0 (zI s0) (zL s0) b1 a2 (zI s2) (zL s2) (zA s2 5) a3 (zI s3) (zL s3) (zA s3 5) a4 (zI s4) (zL s4) (zA s4 5) a5 (zI s5) (zL s5) (zA s5 5)) sz)) (zQi y.1 (dC, dI) cy (wd_CH_image cy o0 a0 (zI y.2.1) (zL y.2.1) b1 a2 (zI y.2.2.1) (zL y.2.2.1) (zA y.2.2.1 5) a3 (zI s3) (zL s3) (zA s3 5) a4 (zI y.2.2.2.1) (zL y.2.2.2.1) (zA y.2.2.2.1 5) a5 (zI y.2.2.2.2) (zL y.2.2.2.2) (zA y.2.2.2.2 5)) (va_A (wd_CH_image cy o0 a0 (zI s0) (zL s0) b1 a2 (zI s2) (zL s2) (zA s2 5) a3 (zI s3) (zL s3) (zA s3 5) a4 (zI s4) (zL s4) (zA s4 5) a5 (zI s5) (zL s5) (zA s5 5)) sz)) 0 0 (va_A (wd_CH_image cy o0 a0 (zI s0) (zL s0) b1 a2 (zI s2) (zL s2) (zA s2 5) a3 (zI s3) (zL s3) (zA s3 5) a4 (zI s4) (zL s4) (zA s4 5) a5 (zI s5) (zL s5) (zA s5 5)) sz) :=
  zentW (Qw := fun A => (zQi y.1 (dC, dI) cy (wd_CH_image cy o0 a0 (zI y.2.1) (zL y.2.1) b1 a2 (zI y.2.2.1) (zL y.2.2.1) (zA y.2.2.1 5) a3 (zI s3) (zL s3) (zA s3 5) a4 (zI y.2.2.2.1) (zL y.2.2.2.1) (zA y.2.2.2.1 5) a5 (zI y.2.2.2.2) (zL y.2.2.2.2) (zA y.2.2.2.2 5)) A)) (by decide +kernel) (Nat.le_of_ble_eq_true rfl) (fun p e s m below meth c A C0 hA hP hD hS ls hl => k_CH_image_b0 C0 s0 s2 s3 s4 s5 v1 hA hP hD hS hf ls hl)
def wd_CH_back (cy : Nat → ClassId) (o0 : Nat) (a0 : Nat → Nat) (g0 : Nat → Int32) (h0 : Nat → Int64) (b1 : Nat → Nat) (a2 : Nat → Nat) (g2 : Nat → Int32) (h2 : Nat → Int64) (x2_5 : Nat → Int32) (a3 : Nat → Nat) (g3 : Nat → Int32) (h3 : Nat → Int64) (x3_5 : Nat → Int32) (a4 : Nat → Nat) (g4 : Nat → Int32) (h4 : Nat → Int64) (x4_5 : Nat → Int32) (a5 : Nat → Nat) (g5 : Nat → Int32) (h5 : Nat → Int64) (x5_5 : Nat → Int32) : va_W := [(o0, .inr (10, fs_CH a0 g0 h0)), ((a0 6), .inl (cy 4, 3, .inr (.inr (.inr (.inr (zbx b1)))))), ((a0 5), .inr (3, fs_Earnest a2 g2 h2)), (a2 5, .inl (cy 0, 11, .inl x2_5)), ((b1 0), .inr (3, fs_Earnest a3 g3 h3)), (a3 5, .inl (cy 0, 11, .inl x3_5)), ((b1 1), .inr (3, fs_Earnest a4 g4 h4)), (a4 5, .inl (cy 0, 11, .inl x4_5)), ((b1 2), .inr (3, fs_Earnest a5 g5 h5)), (a5 5, .inl (cy 0, 11, .inl x5_5))]
def rm_CH_back : Room := { frames := 2, cells := 0, slots := 0, locals := 62 }
theorem rm_ok_CH_back_CH_within : rm_CH_within.cells = 0 ∧ rm_CH_within.slots = 0 ∧ rm_CH_within.frames + 1 ≤ rm_CH_back.frames ∧ 8 + (3 + 11) + rm_CH_within.locals ≤ rm_CH_back.locals := by decide
theorem rm_ok_CH_back_Earnest_copy : rm_Earnest_copy.cells = 0 ∧ rm_Earnest_copy.slots = 0 ∧ rm_Earnest_copy.frames + 1 ≤ rm_CH_back.frames ∧ 8 + (2 + 11) + rm_Earnest_copy.locals ≤ rm_CH_back.locals := by decide
set_option maxHeartbeats 4000000 in
set_option maxRecDepth 100000 in
theorem k_CH_back_b0 {p : Program} {l : Launch} {e : Env} {s : State} {m : MethodId} {args : Array Value} {below : List Frame} {meth : Method} {c : Code} {dC : Nat → ClassId} {dI : Nat → Nat → Nat} {cy : Nat → ClassId} {A : Nat → Prop} {o0 : Nat} {a0 : Nat → Nat} {b1 : Nat → Nat} {a2 : Nat → Nat} {a3 : Nat → Nat} {a4 : Nat → Nat} {a5 : Nat → Nat} {N : Nat} {y : Int32 × zSt} (C0 : zCx p s m args meth c cX10_back 2 (some .int) RX10 (dC, dI) cy) (s0 : zSt) (s2 : zSt) (s3 : zSt) (s4 : zSt) (s5 : zSt) (v1 : Int32) (hA : ∀ q, s.heap.size ≤ q → A q) {H : Heap} {locs : List Loc} (hP : va_P (dC, dI) vwCl (wd_CH_back cy o0 a0 (zI s0) (zL s0) b1 a2 (zI s2) (zL s2) (zA s2 5) a3 (zI s3) (zL s3) (zA s3 5) a4 (zI s4) (zL s4) (zA s4 5) a5 (zI s5) (zL s5) (zA s5 5)) H) (hD : va_D A (wd_CH_back cy o0 a0 (zI s0) (zL s0) b1 a2 (zI s2) (zL s2) (zA s2 5) a3 (zI s3) (zL s3) (zA s3 5) a4 (zI s4) (zL s4) (zA s4 5) a5 (zI s5) (zL s5) (zA s5 5))) (hS : va_S A s.heap H locs) (hf : CH_back_b0 N s0 s2 s3 s4 s5 v1 = some y) (ls : Array Slot) (hl : lv_has ls 2 [(0, .ref o0), (1, .int v1)]) : W p l e rm_CH_back s m args below meth c H locs 0 0 (MQ below (zQi y.1 (dC, dI) cy (wd_CH_back cy o0 a0 (zI s0) (zL s0) b1 a2 (zI y.2) (zL y.2) (zA y.2 5) a3 (zI s3) (zL s3) (zA s3 5) a4 (zI s4) (zL s4) (zA s4 5) a5 (zI s5) (zL s5) (zA s5 5)) A) args s 0 0 A) (F0 m 0 ls []) := by
  obtain ⟨hx, hb, hr, hml, hown, hT, hk, hK⟩ := id C0
  refine lv_iload_n hx hb dX10_back_0 rfl (lv_at hl 1 rfl) ?_
  refine lv_iconst (v := 0) hx hb dX10_back_1 (by decide) ?_
  refine lv_iconst (v := 2) hx hb dX10_back_2 (by decide) ?_
  obtain ⟨z1, hc2, hf⟩ := zbd_some hf
  refine zri (zS (As := [.int v1, .int 0, .int 2]) hx hb hml hown hT hl.1 (c_CH_within v1 0 2 hc2) zY_CH_within tb_495 (zpS hK hP [] rfl) rm_ok_CH_back_CH_within rfl rfl (Nat.le_of_ble_eq_true rfl) dX10_back_3 ⟨Nat.zero_le _, Nat.zero_le _⟩) ?_
  refine lv_if_eq (tgt := 20) hx hb dX10_back_6 (by decide) (fun hb_3 => ?_) (fun hb_3 => ?_)
  · have hf := zif_t hb_3 hf
    refine lv_iconst (v := (-1)) hx hb dX10_back_20 (by decide) ?_
    cases hf
    exact zewi hx hb hr hk hK hP hD hS dX10_back_21
  · have hf := zif_f hb_3 hf
    refine lv_aload_n hx hb dX10_back_9 rfl (lv_at hl 0 rfl) ?_
    refine zget (v := .int (zI s0 7)) hx hb hown hT hK hP inX10 rfl smX10 0 rfl 7 (by decide) tb_438 rfl dX10_back_10 ?_
    refine lv_iload_n hx hb dX10_back_13 rfl (lv_at hl 1 rfl) ?_
    refine lv_ishr hx hb dX10_back_14 ?_
    refine lv_iconst (v := 1) hx hb dX10_back_15 (by decide) ?_
    refine lv_iand hx hb dX10_back_16 ?_
    refine lv_if_ne (tgt := 22) hx hb dX10_back_17 (by decide) (fun hb_4 => ?_) (fun hb_4 => ?_)
    · have hf := zif_f hb_4 hf
      refine lv_aload_n hx hb dX10_back_22 rfl (lv_at hl 0 rfl) ?_
      refine zget (v := .ref (a0 5)) hx hb hown hT hK hP inX10 rfl smX10 0 rfl 5 (by decide) tb_436 rfl dX10_back_23 ?_
      refine lv_aload_n hx hb dX10_back_26 rfl (lv_at hl 0 rfl) ?_
      refine zget (v := .ref (a0 6)) hx hb hown hT hK hP inX10 rfl smX10 0 rfl 6 (by decide) tb_437 rfl dX10_back_27 ?_
      refine lv_iload_n hx hb dX10_back_30 rfl (lv_at hl 1 rfl) ?_
      by_cases he50 : v1 = 0
      · have hf := zif_t he50 hf
        rw [he50]
        refine va_aldq hx hb hK.1 hP 1 4 rfl rfl (by unfold vp_in; decide) dX10_back_31 ?_
        obtain ⟨z6, hc7, hf⟩ := zbd_some hf
        refine zwv (wr := [(o0, .inr (10, fs_CH a0 (zI s0) (zL s0))), ((a0 6), .inl (cy 4, 3, .inr (.inr (.inr (.inr (zbx b1)))))), ((b1 1), .inr (3, fs_Earnest a4 (zI s4) (zL s4))), (a4 5, .inl (cy 0, 11, .inl (zA s4 5))), ((b1 2), .inr (3, fs_Earnest a5 (zI s5) (zL s5))), (a5 5, .inl (cy 0, 11, .inl (zA s5 5)))]) (ws' := (wd_CH_back cy o0 a0 (zI s0) (zL s0) b1 a2 (zI z6) (zL z6) (zA z6 5) a3 (zI s3) (zL s3) (zA s3 5) a4 (zI s4) (zL s4) (zA s4 5) a5 (zI s5) (zL s5) (zA s5 5))) (zV (As := [.ref (b1 0)]) hx hb hml hown hT hl.1 (c_Earnest_copy (a0 5) a2 s2 (b1 0) a3 s3 hc7) zY_Earnest_copy tb_983 (zpRw hK hP hD [2, 3, 4, 5] (by decide) rfl 0 3 rfl rfl rfl rfl) rm_ok_CH_back_Earnest_copy rfl rfl (Nat.le_of_ble_eq_true rfl) dX10_back_32 ⟨Nat.zero_le _, Nat.zero_le _⟩) hP hD hS hA [2, 3, 4, 5] [0, 1, 6, 7, 8, 9] [0, 1, 6, 7, 8, 9, 2, 3, 4, 5] rfl rfl (by decide) (by decide) (by decide) rfl rfl (fun H locs hP hD hS => ?_)
        refine lv_aload_n hx hb dX10_back_35 rfl (lv_at hl 0 rfl) ?_
        refine zget (v := .ref (a0 5)) hx hb hown hT hK hP inX10 rfl smX10 0 rfl 5 (by decide) tb_436 rfl dX10_back_36 ?_
        refine zget (v := .int (zI z6 4)) hx hb hown hT hK hP inX3 rfl smX3 2 rfl 4 (by decide) tb_182 rfl dX10_back_39 ?_
        cases hf
        exact zewi hx hb hr hk hK hP hD hS dX10_back_42
      · have hf := zif_f he50 hf
        by_cases he51 : v1 = 1
        · have hf := zif_t he51 hf
          rw [he51]
          refine va_aldq hx hb hK.1 hP 1 4 rfl rfl (by unfold vp_in; decide) dX10_back_31 ?_
          obtain ⟨z8, hc9, hf⟩ := zbd_some hf
          refine zwv (wr := [(o0, .inr (10, fs_CH a0 (zI s0) (zL s0))), ((a0 6), .inl (cy 4, 3, .inr (.inr (.inr (.inr (zbx b1)))))), ((b1 0), .inr (3, fs_Earnest a3 (zI s3) (zL s3))), (a3 5, .inl (cy 0, 11, .inl (zA s3 5))), ((b1 2), .inr (3, fs_Earnest a5 (zI s5) (zL s5))), (a5 5, .inl (cy 0, 11, .inl (zA s5 5)))]) (ws' := (wd_CH_back cy o0 a0 (zI s0) (zL s0) b1 a2 (zI z8) (zL z8) (zA z8 5) a3 (zI s3) (zL s3) (zA s3 5) a4 (zI s4) (zL s4) (zA s4 5) a5 (zI s5) (zL s5) (zA s5 5))) (zV (As := [.ref (b1 1)]) hx hb hml hown hT hl.1 (c_Earnest_copy (a0 5) a2 s2 (b1 1) a4 s4 hc9) zY_Earnest_copy tb_983 (zpRw hK hP hD [2, 3, 6, 7] (by decide) rfl 0 3 rfl rfl rfl rfl) rm_ok_CH_back_Earnest_copy rfl rfl (Nat.le_of_ble_eq_true rfl) dX10_back_32 ⟨Nat.zero_le _, Nat.zero_le _⟩) hP hD hS hA [2, 3, 6, 7] [0, 1, 4, 5, 8, 9] [0, 1, 6, 7, 2, 3, 8, 9, 4, 5] rfl rfl (by decide) (by decide) (by decide) rfl rfl (fun H locs hP hD hS => ?_)
          refine lv_aload_n hx hb dX10_back_35 rfl (lv_at hl 0 rfl) ?_
          refine zget (v := .ref (a0 5)) hx hb hown hT hK hP inX10 rfl smX10 0 rfl 5 (by decide) tb_436 rfl dX10_back_36 ?_
          refine zget (v := .int (zI z8 4)) hx hb hown hT hK hP inX3 rfl smX3 2 rfl 4 (by decide) tb_182 rfl dX10_back_39 ?_
          cases hf
          exact zewi hx hb hr hk hK hP hD hS dX10_back_42
        · have hf := zif_f he51 hf
          by_cases he52 : v1 = 2
          · have hf := zif_t he52 hf
            rw [he52]
            refine va_aldq hx hb hK.1 hP 1 4 rfl rfl (by unfold vp_in; decide) dX10_back_31 ?_
            obtain ⟨z10, hc11, hf⟩ := zbd_some hf
            refine zwv (wr := [(o0, .inr (10, fs_CH a0 (zI s0) (zL s0))), ((a0 6), .inl (cy 4, 3, .inr (.inr (.inr (.inr (zbx b1)))))), ((b1 0), .inr (3, fs_Earnest a3 (zI s3) (zL s3))), (a3 5, .inl (cy 0, 11, .inl (zA s3 5))), ((b1 1), .inr (3, fs_Earnest a4 (zI s4) (zL s4))), (a4 5, .inl (cy 0, 11, .inl (zA s4 5)))]) (ws' := (wd_CH_back cy o0 a0 (zI s0) (zL s0) b1 a2 (zI z10) (zL z10) (zA z10 5) a3 (zI s3) (zL s3) (zA s3 5) a4 (zI s4) (zL s4) (zA s4 5) a5 (zI s5) (zL s5) (zA s5 5))) (zV (As := [.ref (b1 2)]) hx hb hml hown hT hl.1 (c_Earnest_copy (a0 5) a2 s2 (b1 2) a5 s5 hc11) zY_Earnest_copy tb_983 (zpRw hK hP hD [2, 3, 8, 9] (by decide) rfl 0 3 rfl rfl rfl rfl) rm_ok_CH_back_Earnest_copy rfl rfl (Nat.le_of_ble_eq_true rfl) dX10_back_32 ⟨Nat.zero_le _, Nat.zero_le _⟩) hP hD hS hA [2, 3, 8, 9] [0, 1, 4, 5, 6, 7] [0, 1, 6, 7, 2, 3, 4, 5, 8, 9] rfl rfl (by decide) (by decide) (by decide) rfl rfl (fun H locs hP hD hS => ?_)
            refine lv_aload_n hx hb dX10_back_35 rfl (lv_at hl 0 rfl) ?_
            refine zget (v := .ref (a0 5)) hx hb hown hT hK hP inX10 rfl smX10 0 rfl 5 (by decide) tb_436 rfl dX10_back_36 ?_
            refine zget (v := .int (zI z10 4)) hx hb hown hT hK hP inX3 rfl smX3 2 rfl 4 (by decide) tb_182 rfl dX10_back_39 ?_
            cases hf
            exact zewi hx hb hr hk hK hP hD hS dX10_back_42
          · have hf := zif_f he52 hf
            cases hf
    · have hf := zif_t hb_4 hf
      refine lv_iconst (v := (-1)) hx hb dX10_back_20 (by decide) ?_
      cases hf
      exact zewi hx hb hr hk hK hP hD hS dX10_back_21
set_option maxHeartbeats 4000000 in
set_option maxRecDepth 100000 in
theorem c_CH_back {l : Launch} {dC : Nat → ClassId} {dI : Nat → Nat → Nat} {cy : Nat → ClassId} {sz : Nat} {N : Nat} (o0 : Nat) (a0 : Nat → Nat) (s0 : zSt) (b1 : Nat → Nat) (a2 : Nat → Nat) (s2 : zSt) (a3 : Nat → Nat) (s3 : zSt) (a4 : Nat → Nat) (s4 : zSt) (a5 : Nat → Nat) (s5 : zSt) (v1 : Int32) {y : Int32 × zSt} (hf : CH_back N s0 s2 s3 s4 s5 v1 = some y) : Met l yX10_back (.code yX10_back cX10_back 2 (some .int) :: zt) rm_CH_back (va_Pc [.ref o0, .int v1] (zPre (dC, dI) cy (wd_CH_back cy o0 a0 (zI s0) (zL s0) b1 a2 (zI s2) (zL s2) (zA s2 5) a3 (zI s3) (zL s3) (zA s3 5) a4 (zI s4) (zL s4) (zA s4 5) a5 (zI s5) (zL s5) (zA s5 5)) sz)) (zQi y.1 (dC, dI) cy (wd_CH_back cy o0 a0 (zI s0) (zL s0) b1 a2 (zI y.2) (zL y.2) (zA y.2 5) a3 (zI s3) (zL s3) (zA s3 5) a4 (zI s4) (zL s4) (zA s4 5) a5 (zI s5) (zL s5) (zA s5 5)) (va_A (wd_CH_back cy o0 a0 (zI s0) (zL s0) b1 a2 (zI s2) (zL s2) (zA s2 5) a3 (zI s3) (zL s3) (zA s3 5) a4 (zI s4) (zL s4) (zA s4 5) a5 (zI s5) (zL s5) (zA s5 5)) sz)) 0 0 (va_A (wd_CH_back cy o0 a0 (zI s0) (zL s0) b1 a2 (zI s2) (zL s2) (zA s2 5) a3 (zI s3) (zL s3) (zA s3 5) a4 (zI s4) (zL s4) (zA s4 5) a5 (zI s5) (zL s5) (zA s5 5)) sz) :=
  zentW (Qw := fun A => (zQi y.1 (dC, dI) cy (wd_CH_back cy o0 a0 (zI s0) (zL s0) b1 a2 (zI y.2) (zL y.2) (zA y.2 5) a3 (zI s3) (zL s3) (zA s3 5) a4 (zI s4) (zL s4) (zA s4 5) a5 (zI s5) (zL s5) (zA s5 5)) A)) (by decide +kernel) (Nat.le_of_ble_eq_true rfl) (fun p e s m below meth c A C0 hA hP hD hS ls hl => k_CH_back_b0 C0 s0 s2 s3 s4 s5 v1 hA hP hD hS hf ls hl)
def wd_CH_about (cy : Nat → ClassId) (o0 : Nat) (a0 : Nat → Nat) (g0 : Nat → Int32) (h0 : Nat → Int64) (a1 : Nat → Nat) (g1 : Nat → Int32) (h1 : Nat → Int64) (a2 : Nat → Nat) (g2 : Nat → Int32) (h2 : Nat → Int64) (a3 : Nat → Nat) (g3 : Nat → Int32) (h3 : Nat → Int64) : va_W := [(o0, .inr (10, fs_CH a0 g0 h0)), ((a0 8), .inr (4, fs_Entries a1 g1 h1)), ((a0 5), .inr (3, fs_Earnest a2 g2 h2)), ((a0 3), .inr (9, fs_Valley a3 g3 h3))]
def rm_CH_about : Room := { frames := 1, cells := 0, slots := 0, locals := 40 }
set_option maxHeartbeats 4000000 in
set_option maxRecDepth 100000 in
theorem k_CH_about_b0 {p : Program} {l : Launch} {e : Env} {s : State} {m : MethodId} {args : Array Value} {below : List Frame} {meth : Method} {c : Code} {dC : Nat → ClassId} {dI : Nat → Nat → Nat} {cy : Nat → ClassId} {o0 : Nat} {a0 : Nat → Nat} {a1 : Nat → Nat} {a2 : Nat → Nat} {a3 : Nat → Nat} {N : Nat} {y : Int32} (C0 : zCx p s m args meth c cX10_about 2 (some .int) RX10 (dC, dI) cy) (s0 : zSt) (s1 : zSt) (s2 : zSt) (s3 : zSt) (v1 : Int32) (hP : va_P (dC, dI) vwCl (wd_CH_about cy o0 a0 (zI s0) (zL s0) a1 (zI s1) (zL s1) a2 (zI s2) (zL s2) a3 (zI s3) (zL s3)) s.heap) (hf : CH_about_b0 N s0 s1 s2 s3 v1 = some y) (ls : Array Slot) (hl : lv_has ls 2 [(0, .ref o0), (1, .int v1)]) : W p l e rm_CH_about s m args below meth c s.heap [] 0 0 (MQ below (zSi y) args s 0 0 (fun _ => False)) (F0 m 0 ls []) := by
  obtain ⟨hx, hb, hr, hml, hown, hT, hk, hK⟩ := id C0
  refine lv_iload_n hx hb dX10_about_0 rfl (lv_at hl 1 rfl) ?_
  by_cases hw10 : v1 = 0
  · have hf := zif_t hw10 hf
    refine lv_tableIn (off := 59) (tgt := 60) hx hb dX10_about_1 (by rw [hw10]; decide) (by rw [hw10]; decide) (by rw [hw10]; decide) (by decide) ?_
    refine lv_aload_n hx hb dX10_about_60 rfl (lv_at hl 0 rfl) ?_
    refine zget (v := .ref (a0 3)) hx hb hown hT hK hP inX10 rfl smX10 0 rfl 3 (by decide) tb_434 rfl dX10_about_61 ?_
    refine zget (v := .int (zI s3 0)) hx hb hown hT hK hP inX9 rfl smX9 3 rfl 0 (by decide) tb_96 rfl dX10_about_64 ?_
    cases hf
    exact zeri hx hb hr hk dX10_about_67
  · have hf := zif_f hw10 hf
    by_cases hw11 : v1 = 1
    · have hf := zif_t hw11 hf
      refine lv_tableIn (off := 67) (tgt := 68) hx hb dX10_about_1 (by rw [hw11]; decide) (by rw [hw11]; decide) (by rw [hw11]; decide) (by decide) ?_
      refine lv_aload_n hx hb dX10_about_68 rfl (lv_at hl 0 rfl) ?_
      refine zget (v := .ref (a0 3)) hx hb hown hT hK hP inX10 rfl smX10 0 rfl 3 (by decide) tb_434 rfl dX10_about_69 ?_
      refine zget (v := .int (zI s3 9)) hx hb hown hT hK hP inX9 rfl smX9 3 rfl 9 (by decide) tb_125 rfl dX10_about_72 ?_
      cases hf
      exact zeri hx hb hr hk dX10_about_75
    · have hf := zif_f hw11 hf
      by_cases hw12 : v1 = 2
      · have hf := zif_t hw12 hf
        refine lv_tableIn (off := 75) (tgt := 76) hx hb dX10_about_1 (by rw [hw12]; decide) (by rw [hw12]; decide) (by rw [hw12]; decide) (by decide) ?_
        refine lv_aload_n hx hb dX10_about_76 rfl (lv_at hl 0 rfl) ?_
        refine zget (v := .ref (a0 3)) hx hb hown hT hK hP inX10 rfl smX10 0 rfl 3 (by decide) tb_434 rfl dX10_about_77 ?_
        refine zget (v := .int (zI s3 3)) hx hb hown hT hK hP inX9 rfl smX9 3 rfl 3 (by decide) tb_105 rfl dX10_about_80 ?_
        refine lv_aload_n hx hb dX10_about_83 rfl (lv_at hl 0 rfl) ?_
        refine zget (v := .ref (a0 3)) hx hb hown hT hK hP inX10 rfl smX10 0 rfl 3 (by decide) tb_434 rfl dX10_about_84 ?_
        refine zget (v := .int (zI s3 9)) hx hb hown hT hK hP inX9 rfl smX9 3 rfl 9 (by decide) tb_125 rfl dX10_about_87 ?_
        refine lv_isub hx hb dX10_about_90 ?_
        cases hf
        exact zeri hx hb hr hk dX10_about_91
      · have hf := zif_f hw12 hf
        by_cases hw13 : v1 = 3
        · have hf := zif_t hw13 hf
          refine lv_tableIn (off := 91) (tgt := 92) hx hb dX10_about_1 (by rw [hw13]; decide) (by rw [hw13]; decide) (by rw [hw13]; decide) (by decide) ?_
          refine lv_aload_n hx hb dX10_about_92 rfl (lv_at hl 0 rfl) ?_
          refine zget (v := .ref (a0 3)) hx hb hown hT hK hP inX10 rfl smX10 0 rfl 3 (by decide) tb_434 rfl dX10_about_93 ?_
          refine zget (v := .int (zI s3 12)) hx hb hown hT hK hP inX9 rfl smX9 3 rfl 12 (by decide) tb_132 rfl dX10_about_96 ?_
          cases hf
          exact zeri hx hb hr hk dX10_about_99
        · have hf := zif_f hw13 hf
          by_cases hw14 : v1 = 4
          · have hf := zif_t hw14 hf
            refine lv_tableIn (off := 99) (tgt := 100) hx hb dX10_about_1 (by rw [hw14]; decide) (by rw [hw14]; decide) (by rw [hw14]; decide) (by decide) ?_
            refine lv_aload_n hx hb dX10_about_100 rfl (lv_at hl 0 rfl) ?_
            refine zget (v := .ref (a0 5)) hx hb hown hT hK hP inX10 rfl smX10 0 rfl 5 (by decide) tb_436 rfl dX10_about_101 ?_
            refine zget (v := .int (zI s2 2)) hx hb hown hT hK hP inX3 rfl smX3 2 rfl 2 (by decide) tb_178 rfl dX10_about_104 ?_
            cases hf
            exact zeri hx hb hr hk dX10_about_107
          · have hf := zif_f hw14 hf
            by_cases hw15 : v1 = 5
            · have hf := zif_t hw15 hf
              refine lv_tableIn (off := 107) (tgt := 108) hx hb dX10_about_1 (by rw [hw15]; decide) (by rw [hw15]; decide) (by rw [hw15]; decide) (by decide) ?_
              refine lv_aload_n hx hb dX10_about_108 rfl (lv_at hl 0 rfl) ?_
              refine zget (v := .ref (a0 5)) hx hb hown hT hK hP inX10 rfl smX10 0 rfl 5 (by decide) tb_436 rfl dX10_about_109 ?_
              refine zget (v := .int (zI s2 3)) hx hb hown hT hK hP inX3 rfl smX3 2 rfl 3 (by decide) tb_180 rfl dX10_about_112 ?_
              cases hf
              exact zeri hx hb hr hk dX10_about_115
            · have hf := zif_f hw15 hf
              by_cases hw16 : v1 = 6
              · have hf := zif_t hw16 hf
                refine lv_tableIn (off := 115) (tgt := 116) hx hb dX10_about_1 (by rw [hw16]; decide) (by rw [hw16]; decide) (by rw [hw16]; decide) (by decide) ?_
                refine lv_aload_n hx hb dX10_about_116 rfl (lv_at hl 0 rfl) ?_
                refine zget (v := .ref (a0 5)) hx hb hown hT hK hP inX10 rfl smX10 0 rfl 5 (by decide) tb_436 rfl dX10_about_117 ?_
                refine zget (v := .int (zI s2 4)) hx hb hown hT hK hP inX3 rfl smX3 2 rfl 4 (by decide) tb_182 rfl dX10_about_120 ?_
                cases hf
                exact zeri hx hb hr hk dX10_about_123
              · have hf := zif_f hw16 hf
                by_cases hw17 : v1 = 7
                · have hf := zif_t hw17 hf
                  refine lv_tableIn (off := 123) (tgt := 124) hx hb dX10_about_1 (by rw [hw17]; decide) (by rw [hw17]; decide) (by rw [hw17]; decide) (by decide) ?_
                  refine lv_aload_n hx hb dX10_about_124 rfl (lv_at hl 0 rfl) ?_
                  refine zget (v := .ref (a0 8)) hx hb hown hT hK hP inX10 rfl smX10 0 rfl 8 (by decide) tb_439 rfl dX10_about_125 ?_
                  refine zget (v := .int (zI s1 0)) hx hb hown hT hK hP inX4 rfl smX4 1 rfl 0 (by decide) tb_208 rfl dX10_about_128 ?_
                  cases hf
                  exact zeri hx hb hr hk dX10_about_131
                · have hf := zif_f hw17 hf
                  by_cases hw18 : v1 = 8
                  · have hf := zif_t hw18 hf
                    refine lv_tableIn (off := 131) (tgt := 132) hx hb dX10_about_1 (by rw [hw18]; decide) (by rw [hw18]; decide) (by rw [hw18]; decide) (by decide) ?_
                    refine lv_aload_n hx hb dX10_about_132 rfl (lv_at hl 0 rfl) ?_
                    refine zget (v := .int (zI s0 9)) hx hb hown hT hK hP inX10 rfl smX10 0 rfl 9 (by decide) tb_440 rfl dX10_about_133 ?_
                    cases hf
                    exact zeri hx hb hr hk dX10_about_136
                  · have hf := zif_f hw18 hf
                    by_cases hw19 : v1 = 9
                    · have hf := zif_t hw19 hf
                      refine lv_tableIn (off := 136) (tgt := 137) hx hb dX10_about_1 (by rw [hw19]; decide) (by rw [hw19]; decide) (by rw [hw19]; decide) (by decide) ?_
                      refine lv_aload_n hx hb dX10_about_137 rfl (lv_at hl 0 rfl) ?_
                      refine zget (v := .int (zI s0 1)) hx hb hown hT hK hP inX10 rfl smX10 0 rfl 1 (by decide) tb_432 rfl dX10_about_138 ?_
                      cases hf
                      exact zeri hx hb hr hk dX10_about_141
                    · have hf := zif_f hw19 hf
                      by_cases hw110 : v1 = 10
                      · have hf := zif_t hw110 hf
                        refine lv_tableIn (off := 141) (tgt := 142) hx hb dX10_about_1 (by rw [hw110]; decide) (by rw [hw110]; decide) (by rw [hw110]; decide) (by decide) ?_
                        refine lv_aload_n hx hb dX10_about_142 rfl (lv_at hl 0 rfl) ?_
                        refine zget (v := .int (zI s0 11)) hx hb hown hT hK hP inX10 rfl smX10 0 rfl 11 (by decide) tb_442 rfl dX10_about_143 ?_
                        cases hf
                        exact zeri hx hb hr hk dX10_about_146
                      · have hf := zif_f hw110 hf
                        refine lv_tableOut (tgt := 147) hx hb dX10_about_1 (zsw 10 (by decide) (fun k hk => ?_)) (by decide) ?_
                        · rcases (show k = 0 ∨ k = 1 ∨ k = 2 ∨ k = 3 ∨ k = 4 ∨ k = 5 ∨ k = 6 ∨ k = 7 ∨ k = 8 ∨ k = 9 ∨ k = 10 by omega) with rfl | rfl | rfl | rfl | rfl | rfl | rfl | rfl | rfl | rfl | rfl
                          · exact hw10
                          · exact hw11
                          · exact hw12
                          · exact hw13
                          · exact hw14
                          · exact hw15
                          · exact hw16
                          · exact hw17
                          · exact hw18
                          · exact hw19
                          · exact hw110
                        · refine lv_iconst (v := (-1)) hx hb dX10_about_147 (by decide) ?_
                          cases hf
                          exact zeri hx hb hr hk dX10_about_148
set_option maxHeartbeats 4000000 in
set_option maxRecDepth 100000 in
theorem c_CH_about {l : Launch} {dC : Nat → ClassId} {dI : Nat → Nat → Nat} {cy : Nat → ClassId} {N : Nat} (o0 : Nat) (a0 : Nat → Nat) (s0 : zSt) (a1 : Nat → Nat) (s1 : zSt) (a2 : Nat → Nat) (s2 : zSt) (a3 : Nat → Nat) (s3 : zSt) (v1 : Int32) {y : Int32} (hf : CH_about N s0 s1 s2 s3 v1 = some y) : Met l yX10_about (.code yX10_about cX10_about 2 (some .int) :: zt) rm_CH_about (va_Pc [.ref o0, .int v1] (zRd (dC, dI) cy (wd_CH_about cy o0 a0 (zI s0) (zL s0) a1 (zI s1) (zL s1) a2 (zI s2) (zL s2) a3 (zI s3) (zL s3)))) (zSi y) 0 0 (fun _ => False) :=
  zentR (by decide +kernel) (Nat.le_of_ble_eq_true rfl) (fun p e s m below meth c C0 hP ls hl => k_CH_about_b0 C0 s0 s1 s2 s3 v1 hP hf ls hl)
def wd_Mo_four (cy : Nat → ClassId) (o0 : Nat) (a0 : Nat → Nat) (g0 : Nat → Int32) (h0 : Nat → Int64) (x0_0 : Nat → Int32) : va_W := [(o0, .inr (11, fs_Mo a0 g0 h0)), (a0 0, .inl (cy 0, 1500, .inl x0_0))]
def rm_Mo_four : Room := { frames := 1, cells := 0, slots := 0, locals := 40 }
set_option maxHeartbeats 4000000 in
set_option maxRecDepth 100000 in
theorem k_Mo_four_b3 {p : Program} {l : Launch} {e : Env} {s : State} {m : MethodId} {args : Array Value} {below : List Frame} {meth : Method} {c : Code} {dC : Nat → ClassId} {dI : Nat → Nat → Nat} {cy : Nat → ClassId} {A : Nat → Prop} {o0 : Nat} {a0 : Nat → Nat} {N : Nat} {kh3 : zSt → Int32 → Option (zSt)} {y : zSt} (C0 : zCx p s m args meth c cX11_four 3 none RX11 (dC, dI) cy) (s0 : zSt) (v1 : Int32) (v2 : Int32) (hk3 : ∀ (s0 : zSt) (v2 : Int32) {H : Heap} {locs : List Loc} (_ : va_P (dC, dI) vwCl (wd_Mo_four cy o0 a0 (zI s0) (zL s0) (zA s0 0)) H) (_ : va_D A (wd_Mo_four cy o0 a0 (zI s0) (zL s0) (zA s0 0))) (_ : va_S A s.heap H locs) (_ : kh3 s0 v2 = some y) (ls : Array Slot) (_ : lv_has ls 3 [(0, .ref o0), (1, .int v1), (2, .int v2)]), W p l e rm_Mo_four s m args below meth c H locs 0 0 (MQ below (zQv (dC, dI) cy (wd_Mo_four cy o0 a0 (zI y) (zL y) (zA y 0)) A) args s 0 0 A) (F0 m 3 ls [])) (hA : ∀ q, s.heap.size ≤ q → A q) {H : Heap} {locs : List Loc} (hP : va_P (dC, dI) vwCl (wd_Mo_four cy o0 a0 (zI s0) (zL s0) (zA s0 0)) H) (hD : va_D A (wd_Mo_four cy o0 a0 (zI s0) (zL s0) (zA s0 0))) (hS : va_S A s.heap H locs) (hf : Mo_four_b3 N kh3 s0 v1 v2 = some y) (ls : Array Slot) (hl : lv_has ls 3 [(0, .ref o0), (1, .int v1), (2, .int v2)]) : W p l e rm_Mo_four s m args below meth c H locs 0 0 (MQ below (zQv (dC, dI) cy (wd_Mo_four cy o0 a0 (zI y) (zL y) (zA y 0)) A) args s 0 0 A) (F0 m 3 ls []) := by
  obtain ⟨hx, hb, hr, hml, hown, hT, hk, hK⟩ := id C0
  refine lv_iload_n hx hb dX11_four_3 rfl (lv_at hl 2 rfl) ?_
  refine lv_if_lt (tgt := 39) hx hb dX11_four_4 (by decide) (fun hb_1 => ?_) (fun hb_1 => ?_)
  · have hf := zif_t hb_1 hf
    cases hf
    exact zewv hx hb hr hk hK hP hD hS dX11_four_39
  · have hf := zif_f hb_1 hf
    refine lv_aload_n hx hb dX11_four_7 rfl (lv_at hl 0 rfl) ?_
    refine zget (v := .ref (a0 0)) hx hb hown hT hK hP inX11 rfl smX11 0 rfl 0 (by decide) tb_1002 rfl dX11_four_8 ?_
    refine lv_aload_n hx hb dX11_four_11 rfl (lv_at hl 0 rfl) ?_
    refine zget (v := .int (zI s0 1)) hx hb hown hT hK hP inX11 rfl smX11 0 rfl 1 (by decide) tb_1003 rfl dX11_four_12 ?_
    refine lv_iload_n hx hb dX11_four_15 rfl (lv_at hl 1 rfl) ?_
    refine lv_iload_n hx hb dX11_four_16 rfl (lv_at hl 2 rfl) ?_
    refine lv_ishr hx hb dX11_four_17 ?_
    refine lv_sipush (v := 255) hx hb dX11_four_18 (by decide) ?_
    refine lv_iand hx hb dX11_four_21 ?_
    obtain ⟨hi2, hf⟩ := zck_some hf
    refine zast (ws' := (wd_Mo_four cy o0 a0 (zI s0) (zL s0) (upd (zA s0 0) (Int32.toNatClampNeg (zI s0 1)) ((v1 >>> (v2 &&& 31)) &&& 255)))) hx hb hK hP hD hS 1 0 rfl rfl hi2 rfl dX11_four_22 (fun H locs hP hD hS => ?_)
    refine lv_aload_n hx hb dX11_four_23 rfl (lv_at hl 0 rfl) ?_
    refine lv_dup hx hb dX11_four_24 rfl ?_
    refine zget (v := .int (zI s0 1)) hx hb hown hT hK hP inX11 rfl smX11 0 rfl 1 (by decide) tb_1003 rfl dX11_four_25 ?_
    refine lv_iconst (v := 1) hx hb dX11_four_28 (by decide) ?_
    refine lv_iadd hx hb dX11_four_29 ?_
    refine zput (fs' := fs_Mo a0 (upd (zI s0) 1 ((zI s0 1) + 1)) (zL s0)) (ws' := (wd_Mo_four cy o0 a0 (upd (zI s0) 1 ((zI s0 1) + 1)) (zL s0) (upd (zA s0 0) (Int32.toNatClampNeg (zI s0 1)) ((v1 >>> (v2 &&& 31)) &&& 255)))) hx hb hown hT hK hP hD hS inX11 rfl smX11 tyX11_ok nmX11 0 rfl 1 (by decide) tb_1003 rfl rfl rfl (Nat.le_of_ble_eq_true rfl) rfl rfl dX11_four_30 (fun H locs hP hD hS => ?_)
    refine lv_iinc (v := v2 + (-8)) (lv' := [(2, .int (v2 + (-8))), (0, .ref o0), (1, .int v1)]) hx hb dX11_four_33 hl (k := 2) rfl rfl (by decide) rfl (fun ls hl => ?_)
    refine lv_goto (tgt := 3) hx hb dX11_four_36 (by decide) ?_
    exact hk3 (zpI (zsA s0 0 (upd (zA s0 0) (Int32.toNatClampNeg (zI s0 1)) ((v1 >>> (v2 &&& 31)) &&& 255))) 1 ((zI s0 1) + 1)) (v2 + (-8)) hP hD hS hf _ (lv_sub hl [1, 2, 0] rfl)
set_option maxHeartbeats 4000000 in
set_option maxRecDepth 100000 in
theorem k_Mo_four_h3 {p : Program} {l : Launch} {e : Env} {s : State} {m : MethodId} {args : Array Value} {below : List Frame} {meth : Method} {c : Code} {dC : Nat → ClassId} {dI : Nat → Nat → Nat} {cy : Nat → ClassId} {A : Nat → Prop} {o0 : Nat} {a0 : Nat → Nat} {N : Nat} {y : zSt} (C0 : zCx p s m args meth c cX11_four 3 none RX11 (dC, dI) cy) (v1 : Int32) (hA : ∀ q, s.heap.size ≤ q → A q) : ∀ (n : Nat) (s0 : zSt) (v2 : Int32) {H : Heap} {locs : List Loc} (hP : va_P (dC, dI) vwCl (wd_Mo_four cy o0 a0 (zI s0) (zL s0) (zA s0 0)) H) (hD : va_D A (wd_Mo_four cy o0 a0 (zI s0) (zL s0) (zA s0 0))) (hS : va_S A s.heap H locs) (hf : Mo_four_h3 N v1 n s0 v2 = some y) (ls : Array Slot) (hl : lv_has ls 3 [(0, .ref o0), (1, .int v1), (2, .int v2)]), W p l e rm_Mo_four s m args below meth c H locs 0 0 (MQ below (zQv (dC, dI) cy (wd_Mo_four cy o0 a0 (zI y) (zL y) (zA y 0)) A) args s 0 0 A) (F0 m 3 ls []) := by
  intro n
  induction n with
  | zero => intro s0 v2 H locs hP hD hS hf; cases hf
  | succ n ih =>
    intro s0 v2 H locs hP hD hS hf ls hl
    have hf : Mo_four_b3 N (Mo_four_h3 N v1 n) s0 v1 v2 = some y := hf
    exact k_Mo_four_b3 C0 s0 v1 v2 (fun s0 v2 _ _ hP hD hS hf ls hl => ih s0 v2 hP hD hS hf ls hl) hA hP hD hS hf ls hl
set_option maxHeartbeats 4000000 in
set_option maxRecDepth 100000 in
theorem k_Mo_four_b0 {p : Program} {l : Launch} {e : Env} {s : State} {m : MethodId} {args : Array Value} {below : List Frame} {meth : Method} {c : Code} {dC : Nat → ClassId} {dI : Nat → Nat → Nat} {cy : Nat → ClassId} {A : Nat → Prop} {o0 : Nat} {a0 : Nat → Nat} {N : Nat} {y : zSt} (C0 : zCx p s m args meth c cX11_four 3 none RX11 (dC, dI) cy) (s0 : zSt) (v1 : Int32) (hA : ∀ q, s.heap.size ≤ q → A q) {H : Heap} {locs : List Loc} (hP : va_P (dC, dI) vwCl (wd_Mo_four cy o0 a0 (zI s0) (zL s0) (zA s0 0)) H) (hD : va_D A (wd_Mo_four cy o0 a0 (zI s0) (zL s0) (zA s0 0))) (hS : va_S A s.heap H locs) (hf : Mo_four_b0 N s0 v1 = some y) (ls : Array Slot) (hl : lv_has ls 3 [(0, .ref o0), (1, .int v1)]) : W p l e rm_Mo_four s m args below meth c H locs 0 0 (MQ below (zQv (dC, dI) cy (wd_Mo_four cy o0 a0 (zI y) (zL y) (zA y 0)) A) args s 0 0 A) (F0 m 0 ls []) := by
  obtain ⟨hx, hb, hr, hml, hown, hT, hk, hK⟩ := id C0
  refine lv_bipush (v := 24) hx hb dX11_four_0 (by decide) ?_
  refine lv_istore_n (lv' := [(2, .int 24), (0, .ref o0), (1, .int v1)]) hx hb dX11_four_2 rfl hl (by decide) rfl (fun ls hl => ?_)
  exact k_Mo_four_h3 C0 v1  hA N s0 24 hP hD hS hf _ (lv_sub hl [1, 2, 0] rfl)
set_option maxHeartbeats 4000000 in
set_option maxRecDepth 100000 in
theorem c_Mo_four {l : Launch} {dC : Nat → ClassId} {dI : Nat → Nat → Nat} {cy : Nat → ClassId} {sz : Nat} {N : Nat} (o0 : Nat) (a0 : Nat → Nat) (s0 : zSt) (v1 : Int32) {y : zSt} (hf : Mo_four N s0 v1 = some y) : Met l yX11_four (.code yX11_four cX11_four 3 none :: zt) rm_Mo_four (va_Pc [.ref o0, .int v1] (zPre (dC, dI) cy (wd_Mo_four cy o0 a0 (zI s0) (zL s0) (zA s0 0)) sz)) (zQv (dC, dI) cy (wd_Mo_four cy o0 a0 (zI y) (zL y) (zA y 0)) (va_A (wd_Mo_four cy o0 a0 (zI s0) (zL s0) (zA s0 0)) sz)) 0 0 (va_A (wd_Mo_four cy o0 a0 (zI s0) (zL s0) (zA s0 0)) sz) :=
  zentW (Qw := fun A => (zQv (dC, dI) cy (wd_Mo_four cy o0 a0 (zI y) (zL y) (zA y 0)) A)) (by decide +kernel) (Nat.le_of_ble_eq_true rfl) (fun p e s m below meth c A C0 hA hP hD hS ls hl => k_Mo_four_b0 C0 s0 v1 hA hP hD hS hf ls hl)
def wd_Mo_feed (cy : Nat → ClassId) (o0 : Nat) (a0 : Nat → Nat) (g0 : Nat → Int32) (h0 : Nat → Int64) (x0_0 : Nat → Int32) : va_W := [(o0, .inr (11, fs_Mo a0 g0 h0)), (a0 0, .inl (cy 0, 1500, .inl x0_0))]
def rm_Mo_feed : Room := { frames := 2, cells := 0, slots := 0, locals := 62 }
theorem rm_ok_Mo_feed_Mo_four : rm_Mo_four.cells = 0 ∧ rm_Mo_four.slots = 0 ∧ rm_Mo_four.frames + 1 ≤ rm_Mo_feed.frames ∧ 8 + (3 + 11) + rm_Mo_four.locals ≤ rm_Mo_feed.locals := by decide
set_option maxHeartbeats 4000000 in
set_option maxRecDepth 100000 in
theorem k_Mo_feed_b0 {p : Program} {l : Launch} {e : Env} {s : State} {m : MethodId} {args : Array Value} {below : List Frame} {meth : Method} {c : Code} {dC : Nat → ClassId} {dI : Nat → Nat → Nat} {cy : Nat → ClassId} {A : Nat → Prop} {o0 : Nat} {a0 : Nat → Nat} {N : Nat} {y : Int32 × zSt} (C0 : zCx p s m args meth c cX11_feed 6 (some .int) RX11 (dC, dI) cy) (s0 : zSt) (v1 : Int32) (v2 : Int32) (v3 : Int32) (v4 : Int32) (v5 : Int32) (hA : ∀ q, s.heap.size ≤ q → A q) {H : Heap} {locs : List Loc} (hP : va_P (dC, dI) vwCl (wd_Mo_feed cy o0 a0 (zI s0) (zL s0) (zA s0 0)) H) (hD : va_D A (wd_Mo_feed cy o0 a0 (zI s0) (zL s0) (zA s0 0))) (hS : va_S A s.heap H locs) (hf : Mo_feed_b0 N s0 v1 v2 v3 v4 v5 = some y) (ls : Array Slot) (hl : lv_has ls 6 [(0, .ref o0), (1, .int v1), (2, .int v2), (3, .int v3), (4, .int v4), (5, .int v5)]) : W p l e rm_Mo_feed s m args below meth c H locs 0 0 (MQ below (zQi y.1 (dC, dI) cy (wd_Mo_feed cy o0 a0 (zI y.2) (zL y.2) (zA y.2 0)) A) args s 0 0 A) (F0 m 0 ls []) := by
  obtain ⟨hx, hb, hr, hml, hown, hT, hk, hK⟩ := id C0
  refine lv_aload_n hx hb dX11_feed_0 rfl (lv_at hl 0 rfl) ?_
  refine zget (v := .int (zI s0 1)) hx hb hown hT hK hP inX11 rfl smX11 0 rfl 1 (by decide) tb_1003 rfl dX11_feed_1 ?_
  refine lv_bipush (v := 20) hx hb dX11_feed_4 (by decide) ?_
  refine lv_iadd hx hb dX11_feed_6 ?_
  refine lv_sipush (v := 1500) hx hb dX11_feed_7 (by decide) ?_
  refine lv_icmp_le (tgt := 15) hx hb dX11_feed_10 (by decide) (fun hb_1 => ?_) (fun hb_1 => ?_)
  · have hf := zif_t hb_1 hf
    refine lv_aload_n hx hb dX11_feed_15 rfl (lv_at hl 0 rfl) ?_
    refine lv_iload_n hx hb dX11_feed_16 rfl (lv_at hl 1 rfl) ?_
    obtain ⟨z2, hc3, hf⟩ := zbd_some hf
    refine zwv (wr := []) (ws' := (wd_Mo_feed cy o0 a0 (zI z2) (zL z2) (zA z2 0))) (zV (As := [.int v1]) hx hb hml hown hT hl.1 (c_Mo_four o0 a0 s0 v1 hc3) zY_Mo_four tb_1200 (zpRw hK hP hD [0, 1] (by decide) rfl 0 11 rfl rfl rfl rfl) rm_ok_Mo_feed_Mo_four rfl rfl (Nat.le_of_ble_eq_true rfl) dX11_feed_17 ⟨Nat.zero_le _, Nat.zero_le _⟩) hP hD hS hA [0, 1] [] [0, 1] rfl rfl (by decide) (by decide) (by decide) rfl rfl (fun H locs hP hD hS => ?_)
    refine lv_aload_n hx hb dX11_feed_20 rfl (lv_at hl 0 rfl) ?_
    refine lv_iload_n hx hb dX11_feed_21 rfl (lv_at hl 2 rfl) ?_
    obtain ⟨z4, hc5, hf⟩ := zbd_some hf
    refine zwv (wr := []) (ws' := (wd_Mo_feed cy o0 a0 (zI z4) (zL z4) (zA z4 0))) (zV (As := [.int v2]) hx hb hml hown hT hl.1 (c_Mo_four o0 a0 z2 v2 hc5) zY_Mo_four tb_1200 (zpRw hK hP hD [0, 1] (by decide) rfl 0 11 rfl rfl rfl rfl) rm_ok_Mo_feed_Mo_four rfl rfl (Nat.le_of_ble_eq_true rfl) dX11_feed_22 ⟨Nat.zero_le _, Nat.zero_le _⟩) hP hD hS hA [0, 1] [] [0, 1] rfl rfl (by decide) (by decide) (by decide) rfl rfl (fun H locs hP hD hS => ?_)
    refine lv_aload_n hx hb dX11_feed_25 rfl (lv_at hl 0 rfl) ?_
    refine lv_iload_n hx hb dX11_feed_26 rfl (lv_at hl 3 rfl) ?_
    obtain ⟨z6, hc7, hf⟩ := zbd_some hf
    refine zwv (wr := []) (ws' := (wd_Mo_feed cy o0 a0 (zI z6) (zL z6) (zA z6 0))) (zV (As := [.int v3]) hx hb hml hown hT hl.1 (c_Mo_four o0 a0 z4 v3 hc7) zY_Mo_four tb_1200 (zpRw hK hP hD [0, 1] (by decide) rfl 0 11 rfl rfl rfl rfl) rm_ok_Mo_feed_Mo_four rfl rfl (Nat.le_of_ble_eq_true rfl) dX11_feed_27 ⟨Nat.zero_le _, Nat.zero_le _⟩) hP hD hS hA [0, 1] [] [0, 1] rfl rfl (by decide) (by decide) (by decide) rfl rfl (fun H locs hP hD hS => ?_)
    refine lv_aload_n hx hb dX11_feed_30 rfl (lv_at hl 0 rfl) ?_
    refine lv_iload hx hb dX11_feed_31 (lv_at hl 4 rfl) ?_
    obtain ⟨z8, hc9, hf⟩ := zbd_some hf
    refine zwv (wr := []) (ws' := (wd_Mo_feed cy o0 a0 (zI z8) (zL z8) (zA z8 0))) (zV (As := [.int v4]) hx hb hml hown hT hl.1 (c_Mo_four o0 a0 z6 v4 hc9) zY_Mo_four tb_1200 (zpRw hK hP hD [0, 1] (by decide) rfl 0 11 rfl rfl rfl rfl) rm_ok_Mo_feed_Mo_four rfl rfl (Nat.le_of_ble_eq_true rfl) dX11_feed_33 ⟨Nat.zero_le _, Nat.zero_le _⟩) hP hD hS hA [0, 1] [] [0, 1] rfl rfl (by decide) (by decide) (by decide) rfl rfl (fun H locs hP hD hS => ?_)
    refine lv_aload_n hx hb dX11_feed_36 rfl (lv_at hl 0 rfl) ?_
    refine lv_iload hx hb dX11_feed_37 (lv_at hl 5 rfl) ?_
    obtain ⟨z10, hc11, hf⟩ := zbd_some hf
    refine zwv (wr := []) (ws' := (wd_Mo_feed cy o0 a0 (zI z10) (zL z10) (zA z10 0))) (zV (As := [.int v5]) hx hb hml hown hT hl.1 (c_Mo_four o0 a0 z8 v5 hc11) zY_Mo_four tb_1200 (zpRw hK hP hD [0, 1] (by decide) rfl 0 11 rfl rfl rfl rfl) rm_ok_Mo_feed_Mo_four rfl rfl (Nat.le_of_ble_eq_true rfl) dX11_feed_39 ⟨Nat.zero_le _, Nat.zero_le _⟩) hP hD hS hA [0, 1] [] [0, 1] rfl rfl (by decide) (by decide) (by decide) rfl rfl (fun H locs hP hD hS => ?_)
    refine lv_aload_n hx hb dX11_feed_42 rfl (lv_at hl 0 rfl) ?_
    refine zget (v := .int (zI z10 1)) hx hb hown hT hK hP inX11 rfl smX11 0 rfl 1 (by decide) tb_1003 rfl dX11_feed_43 ?_
    cases hf
    exact zewi hx hb hr hk hK hP hD hS dX11_feed_46
  · have hf := zif_f hb_1 hf
    refine lv_iconst (v := (-1)) hx hb dX11_feed_13 (by decide) ?_
    cases hf
    exact zewi hx hb hr hk hK hP hD hS dX11_feed_14
set_option maxHeartbeats 4000000 in
set_option maxRecDepth 100000 in
theorem c_Mo_feed {l : Launch} {dC : Nat → ClassId} {dI : Nat → Nat → Nat} {cy : Nat → ClassId} {sz : Nat} {N : Nat} (o0 : Nat) (a0 : Nat → Nat) (s0 : zSt) (v1 : Int32) (v2 : Int32) (v3 : Int32) (v4 : Int32) (v5 : Int32) {y : Int32 × zSt} (hf : Mo_feed N s0 v1 v2 v3 v4 v5 = some y) : Met l yX11_feed (.code yX11_feed cX11_feed 6 (some .int) :: zt) rm_Mo_feed (va_Pc [.ref o0, .int v1, .int v2, .int v3, .int v4, .int v5] (zPre (dC, dI) cy (wd_Mo_feed cy o0 a0 (zI s0) (zL s0) (zA s0 0)) sz)) (zQi y.1 (dC, dI) cy (wd_Mo_feed cy o0 a0 (zI y.2) (zL y.2) (zA y.2 0)) (va_A (wd_Mo_feed cy o0 a0 (zI s0) (zL s0) (zA s0 0)) sz)) 0 0 (va_A (wd_Mo_feed cy o0 a0 (zI s0) (zL s0) (zA s0 0)) sz) :=
  zentW (Qw := fun A => (zQi y.1 (dC, dI) cy (wd_Mo_feed cy o0 a0 (zI y.2) (zL y.2) (zA y.2 0)) A)) (by decide +kernel) (Nat.le_of_ble_eq_true rfl) (fun p e s m below meth c A C0 hA hP hD hS ls hl => k_Mo_feed_b0 C0 s0 v1 v2 v3 v4 v5 hA hP hD hS hf ls hl)
def wd_Mo_end (cy : Nat → ClassId) (o0 : Nat) (a0 : Nat → Nat) (g0 : Nat → Int32) (h0 : Nat → Int64) : va_W := [(o0, .inr (11, fs_Mo a0 g0 h0))]
def rm_Mo_end : Room := { frames := 1, cells := 0, slots := 0, locals := 40 }
set_option maxHeartbeats 4000000 in
set_option maxRecDepth 100000 in
theorem k_Mo_end_b0 {p : Program} {l : Launch} {e : Env} {s : State} {m : MethodId} {args : Array Value} {below : List Frame} {meth : Method} {c : Code} {dC : Nat → ClassId} {dI : Nat → Nat → Nat} {cy : Nat → ClassId} {A : Nat → Prop} {o0 : Nat} {a0 : Nat → Nat} {N : Nat} {y : Int32 × zSt} (C0 : zCx p s m args meth c cX11_end 2 (some .int) RX11 (dC, dI) cy) (s0 : zSt) (v1 : Int32) (hA : ∀ q, s.heap.size ≤ q → A q) {H : Heap} {locs : List Loc} (hP : va_P (dC, dI) vwCl (wd_Mo_end cy o0 a0 (zI s0) (zL s0)) H) (hD : va_D A (wd_Mo_end cy o0 a0 (zI s0) (zL s0))) (hS : va_S A s.heap H locs) (hf : Mo_end_b0 N s0 v1 = some y) (ls : Array Slot) (hl : lv_has ls 2 [(0, .ref o0), (1, .int v1)]) : W p l e rm_Mo_end s m args below meth c H locs 0 0 (MQ below (zQi y.1 (dC, dI) cy (wd_Mo_end cy o0 a0 (zI y.2) (zL y.2)) A) args s 0 0 A) (F0 m 0 ls []) := by
  obtain ⟨hx, hb, hr, hml, hown, hT, hk, hK⟩ := id C0
  refine lv_iload_n hx hb dX11_end_0 rfl (lv_at hl 1 rfl) ?_
  refine lv_if_lt (tgt := 12) hx hb dX11_end_1 (by decide) (fun hb_1 => ?_) (fun hb_1 => ?_)
  · have hf := zif_t hb_1 hf
    refine lv_iconst (v := (-1)) hx hb dX11_end_12 (by decide) ?_
    cases hf
    exact zewi hx hb hr hk hK hP hD hS dX11_end_13
  · have hf := zif_f hb_1 hf
    refine lv_iload_n hx hb dX11_end_4 rfl (lv_at hl 1 rfl) ?_
    refine lv_aload_n hx hb dX11_end_5 rfl (lv_at hl 0 rfl) ?_
    refine zget (v := .int (zI s0 1)) hx hb hown hT hK hP inX11 rfl smX11 0 rfl 1 (by decide) tb_1003 rfl dX11_end_6 ?_
    refine lv_icmp_le (tgt := 14) hx hb dX11_end_9 (by decide) (fun hb_2 => ?_) (fun hb_2 => ?_)
    · have hf := zif_t hb_2 hf
      refine lv_aload_n hx hb dX11_end_14 rfl (lv_at hl 0 rfl) ?_
      refine lv_iload_n hx hb dX11_end_15 rfl (lv_at hl 1 rfl) ?_
      refine zput (fs' := fs_Mo a0 (upd (zI s0) 1 v1) (zL s0)) (ws' := (wd_Mo_end cy o0 a0 (upd (zI s0) 1 v1) (zL s0))) hx hb hown hT hK hP hD hS inX11 rfl smX11 tyX11_ok nmX11 0 rfl 1 (by decide) tb_1003 rfl rfl rfl (Nat.le_of_ble_eq_true rfl) rfl rfl dX11_end_16 (fun H locs hP hD hS => ?_)
      refine lv_iload_n hx hb dX11_end_19 rfl (lv_at hl 1 rfl) ?_
      cases hf
      exact zewi hx hb hr hk hK hP hD hS dX11_end_20
    · have hf := zif_f hb_2 hf
      refine lv_iconst (v := (-1)) hx hb dX11_end_12 (by decide) ?_
      cases hf
      exact zewi hx hb hr hk hK hP hD hS dX11_end_13
set_option maxHeartbeats 4000000 in
set_option maxRecDepth 100000 in
theorem c_Mo_end {l : Launch} {dC : Nat → ClassId} {dI : Nat → Nat → Nat} {cy : Nat → ClassId} {sz : Nat} {N : Nat} (o0 : Nat) (a0 : Nat → Nat) (s0 : zSt) (v1 : Int32) {y : Int32 × zSt} (hf : Mo_end N s0 v1 = some y) : Met l yX11_end (.code yX11_end cX11_end 2 (some .int) :: zt) rm_Mo_end (va_Pc [.ref o0, .int v1] (zPre (dC, dI) cy (wd_Mo_end cy o0 a0 (zI s0) (zL s0)) sz)) (zQi y.1 (dC, dI) cy (wd_Mo_end cy o0 a0 (zI y.2) (zL y.2)) (va_A (wd_Mo_end cy o0 a0 (zI s0) (zL s0)) sz)) 0 0 (va_A (wd_Mo_end cy o0 a0 (zI s0) (zL s0)) sz) :=
  zentW (Qw := fun A => (zQi y.1 (dC, dI) cy (wd_Mo_end cy o0 a0 (zI y.2) (zL y.2)) A)) (by decide +kernel) (Nat.le_of_ble_eq_true rfl) (fun p e s m below meth c A C0 hA hP hD hS ls hl => k_Mo_end_b0 C0 s0 v1 hA hP hD hS hf ls hl)
def wd_Mo_here (cy : Nat → ClassId) (o0 : Nat) (a0 : Nat → Nat) (g0 : Nat → Int32) (h0 : Nat → Int64) (x0_0 : Nat → Int32) : va_W := [(o0, .inr (11, fs_Mo a0 g0 h0)), (a0 0, .inl (cy 0, 1500, .inl x0_0))]
def rm_Mo_here : Room := { frames := 1, cells := 0, slots := 0, locals := 40 }
set_option maxHeartbeats 4000000 in
set_option maxRecDepth 100000 in
theorem k_Mo_here_b0 {p : Program} {l : Launch} {e : Env} {s : State} {m : MethodId} {args : Array Value} {below : List Frame} {meth : Method} {c : Code} {dC : Nat → ClassId} {dI : Nat → Nat → Nat} {cy : Nat → ClassId} {o0 : Nat} {a0 : Nat → Nat} {N : Nat} {y : Int32} (C0 : zCx p s m args meth c cX11_here 2 (some .int) RX11 (dC, dI) cy) (s0 : zSt) (v1 : Int32) (hP : va_P (dC, dI) vwCl (wd_Mo_here cy o0 a0 (zI s0) (zL s0) (zA s0 0)) s.heap) (hf : Mo_here_b0 N s0 v1 = some y) (ls : Array Slot) (hl : lv_has ls 2 [(0, .ref o0), (1, .int v1)]) : W p l e rm_Mo_here s m args below meth c s.heap [] 0 0 (MQ below (zSi y) args s 0 0 (fun _ => False)) (F0 m 0 ls []) := by
  obtain ⟨hx, hb, hr, hml, hown, hT, hk, hK⟩ := id C0
  refine lv_aload_n hx hb dX11_here_0 rfl (lv_at hl 0 rfl) ?_
  refine zget (v := .int (zI s0 4)) hx hb hown hT hK hP inX11 rfl smX11 0 rfl 4 (by decide) tb_1006 rfl dX11_here_1 ?_
  refine lv_iload_n hx hb dX11_here_4 rfl (lv_at hl 1 rfl) ?_
  refine lv_iadd hx hb dX11_here_5 ?_
  refine lv_aload_n hx hb dX11_here_6 rfl (lv_at hl 0 rfl) ?_
  refine zget (v := .int (zI s0 5)) hx hb hown hT hK hP inX11 rfl smX11 0 rfl 5 (by decide) tb_1007 rfl dX11_here_7 ?_
  refine lv_icmp_ge (tgt := 27) hx hb dX11_here_10 (by decide) (fun hb_1 => ?_) (fun hb_1 => ?_)
  · have hf := zif_t hb_1 hf
    refine lv_iconst (v := (-1)) hx hb dX11_here_27 (by decide) ?_
    cases hf
    exact zeri hx hb hr hk dX11_here_28
  · have hf := zif_f hb_1 hf
    refine lv_aload_n hx hb dX11_here_13 rfl (lv_at hl 0 rfl) ?_
    refine zget (v := .ref (a0 0)) hx hb hown hT hK hP inX11 rfl smX11 0 rfl 0 (by decide) tb_1002 rfl dX11_here_14 ?_
    refine lv_aload_n hx hb dX11_here_17 rfl (lv_at hl 0 rfl) ?_
    refine zget (v := .int (zI s0 4)) hx hb hown hT hK hP inX11 rfl smX11 0 rfl 4 (by decide) tb_1006 rfl dX11_here_18 ?_
    refine lv_iload_n hx hb dX11_here_21 rfl (lv_at hl 1 rfl) ?_
    refine lv_iadd hx hb dX11_here_22 ?_
    obtain ⟨hi2, hf⟩ := zck_some hf
    refine va_iald hx hb hK.1 hP 1 0 rfl rfl hi2 dX11_here_23 ?_
    refine lv_goto (tgt := 28) hx hb dX11_here_24 (by decide) ?_
    cases hf
    exact zeri hx hb hr hk dX11_here_28
set_option maxHeartbeats 4000000 in
set_option maxRecDepth 100000 in
theorem c_Mo_here {l : Launch} {dC : Nat → ClassId} {dI : Nat → Nat → Nat} {cy : Nat → ClassId} {N : Nat} (o0 : Nat) (a0 : Nat → Nat) (s0 : zSt) (v1 : Int32) {y : Int32} (hf : Mo_here N s0 v1 = some y) : Met l yX11_here (.code yX11_here cX11_here 2 (some .int) :: zt) rm_Mo_here (va_Pc [.ref o0, .int v1] (zRd (dC, dI) cy (wd_Mo_here cy o0 a0 (zI s0) (zL s0) (zA s0 0)))) (zSi y) 0 0 (fun _ => False) :=
  zentR (by decide +kernel) (Nat.le_of_ble_eq_true rfl) (fun p e s m below meth c C0 hP ls hl => k_Mo_here_b0 C0 s0 v1 hP hf ls hl)
def wd_Mo_isLetter (cy : Nat → ClassId) : va_W := []
def rm_Mo_isLetter : Room := { frames := 1, cells := 0, slots := 0, locals := 40 }
set_option maxHeartbeats 4000000 in
set_option maxRecDepth 100000 in
theorem k_Mo_isLetter_b0 {p : Program} {l : Launch} {e : Env} {s : State} {m : MethodId} {args : Array Value} {below : List Frame} {meth : Method} {c : Code} {dC : Nat → ClassId} {dI : Nat → Nat → Nat} {cy : Nat → ClassId} {N : Nat} {y : Int32} (C0 : zCx p s m args meth c cX11_isLetter 1 (some .boolean) RX11 (dC, dI) cy) (v0 : Int32) (hP : va_P (dC, dI) vwCl (wd_Mo_isLetter cy) s.heap) (hf : Mo_isLetter_b0 N v0 = some y) (ls : Array Slot) (hl : lv_has ls 1 [(0, .int v0)]) : W p l e rm_Mo_isLetter s m args below meth c s.heap [] 0 0 (MQ below (zSi y) args s 0 0 (fun _ => False)) (F0 m 0 ls []) := by
  obtain ⟨hx, hb, hr, hml, hown, hT, hk, hK⟩ := id C0
  refine lv_iload_n hx hb dX11_isLetter_0 rfl (lv_at hl 0 rfl) ?_
  refine lv_bipush (v := 97) hx hb dX11_isLetter_1 (by decide) ?_
  refine lv_icmp_lt (tgt := 16) hx hb dX11_isLetter_3 (by decide) (fun hb_1 => ?_) (fun hb_1 => ?_)
  · have hf := zif_t hb_1 hf
    refine lv_iconst (v := 0) hx hb dX11_isLetter_16 (by decide) ?_
    cases hf
    exact zerz hx hb hr hk (Or.inl rfl) dX11_isLetter_17
  · have hf := zif_f hb_1 hf
    refine lv_iload_n hx hb dX11_isLetter_6 rfl (lv_at hl 0 rfl) ?_
    refine lv_bipush (v := 122) hx hb dX11_isLetter_7 (by decide) ?_
    refine lv_icmp_gt (tgt := 16) hx hb dX11_isLetter_9 (by decide) (fun hb_2 => ?_) (fun hb_2 => ?_)
    · have hf := zif_t hb_2 hf
      refine lv_iconst (v := 0) hx hb dX11_isLetter_16 (by decide) ?_
      cases hf
      exact zerz hx hb hr hk (Or.inl rfl) dX11_isLetter_17
    · have hf := zif_f hb_2 hf
      refine lv_iconst (v := 1) hx hb dX11_isLetter_12 (by decide) ?_
      refine lv_goto (tgt := 17) hx hb dX11_isLetter_13 (by decide) ?_
      cases hf
      exact zerz hx hb hr hk (Or.inr rfl) dX11_isLetter_17
set_option maxHeartbeats 4000000 in
set_option maxRecDepth 100000 in
theorem c_Mo_isLetter {l : Launch} {dC : Nat → ClassId} {dI : Nat → Nat → Nat} {cy : Nat → ClassId} {N : Nat} (v0 : Int32) {y : Int32} (hf : Mo_isLetter N v0 = some y) : Met l yX11_isLetter (.code yX11_isLetter cX11_isLetter 1 (some .boolean) :: zt) rm_Mo_isLetter (va_Pc [.int v0] (zRd (dC, dI) cy (wd_Mo_isLetter cy))) (zSi y) 0 0 (fun _ => False) :=
  zentR (by decide +kernel) (Nat.le_of_ble_eq_true rfl) (fun p e s m below meth c C0 hP ls hl => k_Mo_isLetter_b0 C0 v0 hP hf ls hl)
def wd_Mo_isDigit (cy : Nat → ClassId) : va_W := []
def rm_Mo_isDigit : Room := { frames := 1, cells := 0, slots := 0, locals := 40 }
set_option maxHeartbeats 4000000 in
set_option maxRecDepth 100000 in
theorem k_Mo_isDigit_b0 {p : Program} {l : Launch} {e : Env} {s : State} {m : MethodId} {args : Array Value} {below : List Frame} {meth : Method} {c : Code} {dC : Nat → ClassId} {dI : Nat → Nat → Nat} {cy : Nat → ClassId} {N : Nat} {y : Int32} (C0 : zCx p s m args meth c cX11_isDigit 1 (some .boolean) RX11 (dC, dI) cy) (v0 : Int32) (hP : va_P (dC, dI) vwCl (wd_Mo_isDigit cy) s.heap) (hf : Mo_isDigit_b0 N v0 = some y) (ls : Array Slot) (hl : lv_has ls 1 [(0, .int v0)]) : W p l e rm_Mo_isDigit s m args below meth c s.heap [] 0 0 (MQ below (zSi y) args s 0 0 (fun _ => False)) (F0 m 0 ls []) := by
  obtain ⟨hx, hb, hr, hml, hown, hT, hk, hK⟩ := id C0
  refine lv_iload_n hx hb dX11_isDigit_0 rfl (lv_at hl 0 rfl) ?_
  refine lv_bipush (v := 48) hx hb dX11_isDigit_1 (by decide) ?_
  refine lv_icmp_lt (tgt := 16) hx hb dX11_isDigit_3 (by decide) (fun hb_1 => ?_) (fun hb_1 => ?_)
  · have hf := zif_t hb_1 hf
    refine lv_iconst (v := 0) hx hb dX11_isDigit_16 (by decide) ?_
    cases hf
    exact zerz hx hb hr hk (Or.inl rfl) dX11_isDigit_17
  · have hf := zif_f hb_1 hf
    refine lv_iload_n hx hb dX11_isDigit_6 rfl (lv_at hl 0 rfl) ?_
    refine lv_bipush (v := 57) hx hb dX11_isDigit_7 (by decide) ?_
    refine lv_icmp_gt (tgt := 16) hx hb dX11_isDigit_9 (by decide) (fun hb_2 => ?_) (fun hb_2 => ?_)
    · have hf := zif_t hb_2 hf
      refine lv_iconst (v := 0) hx hb dX11_isDigit_16 (by decide) ?_
      cases hf
      exact zerz hx hb hr hk (Or.inl rfl) dX11_isDigit_17
    · have hf := zif_f hb_2 hf
      refine lv_iconst (v := 1) hx hb dX11_isDigit_12 (by decide) ?_
      refine lv_goto (tgt := 17) hx hb dX11_isDigit_13 (by decide) ?_
      cases hf
      exact zerz hx hb hr hk (Or.inr rfl) dX11_isDigit_17
set_option maxHeartbeats 4000000 in
set_option maxRecDepth 100000 in
theorem c_Mo_isDigit {l : Launch} {dC : Nat → ClassId} {dI : Nat → Nat → Nat} {cy : Nat → ClassId} {N : Nat} (v0 : Int32) {y : Int32} (hf : Mo_isDigit N v0 = some y) : Met l yX11_isDigit (.code yX11_isDigit cX11_isDigit 1 (some .boolean) :: zt) rm_Mo_isDigit (va_Pc [.int v0] (zRd (dC, dI) cy (wd_Mo_isDigit cy))) (zSi y) 0 0 (fun _ => False) :=
  zentR (by decide +kernel) (Nat.le_of_ble_eq_true rfl) (fun p e s m below meth c C0 hP ls hl => k_Mo_isDigit_b0 C0 v0 hP hf ls hl)
