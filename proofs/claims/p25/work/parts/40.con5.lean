def wd_Mo_isKnownNew (cy : Nat → ClassId) (o0 : Nat) (a0 : Nat → Nat) (g0 : Nat → Int32) (h0 : Nat → Int64) (x0_16 : Nat → Int32) (x0_17 : Nat → Int32) (x0_21 : Nat → Int32) : va_W := [(o0, .inr (11, fs_Mo a0 g0 h0)), (a0 16, .inl (cy 0, 11, .inl x0_16)), (a0 17, .inl (cy 0, 11, .inl x0_17)), (a0 21, .inl (cy 0, 9, .inl x0_21))]
def rm_Mo_isKnownNew : Room := { frames := 1, cells := 0, slots := 0, locals := 40 }
set_option maxHeartbeats 4000000 in
set_option maxRecDepth 100000 in
theorem k_Mo_isKnownNew_b118 {p : Program} {l : Launch} {e : Env} {s : State} {m : MethodId} {args : Array Value} {below : List Frame} {meth : Method} {c : Code} {dC : Nat → ClassId} {dI : Nat → Nat → Nat} {cy : Nat → ClassId} {o0 : Nat} {a0 : Nat → Nat} {N : Nat} {kh5 : Int32 → Int32 → Option (Int32)} {kh58 : Int32 → Int32 → Option (Int32)} {y : Int32} (C0 : zCx p s m args meth c cX11_isKnownNew 7 (some .boolean) RX11 (dC, dI) cy) (s0 : zSt) (v1 : Int32) (v2 : Int32) (v4 : Int32) (v5 : Int32) (v6 : Int32) (t0 : Int32) (hk5 : ∀ (v3 : Int32) (v4 : Int32) (_ : kh5 v3 v4 = some y) (ls : Array Slot) (_ : lv_has ls 7 [(0, .ref o0), (1, .int v1), (2, .int v2), (3, .int v3), (4, .int v4)]), W p l e rm_Mo_isKnownNew s m args below meth c s.heap [] 0 0 (MQ below (zSi y) args s 0 0 (fun _ => False)) (F0 m 5 ls [])) (hk58 : ∀ (v3 : Int32) (v6 : Int32) (_ : kh58 v3 v6 = some y) (ls : Array Slot) (_ : lv_has ls 7 [(0, .ref o0), (1, .int v1), (2, .int v2), (3, .int v3), (4, .int v4), (5, .int v5), (6, .int v6)]), W p l e rm_Mo_isKnownNew s m args below meth c s.heap [] 0 0 (MQ below (zSi y) args s 0 0 (fun _ => False)) (F0 m 58 ls [])) (hP : va_P (dC, dI) vwCl (wd_Mo_isKnownNew cy o0 a0 (zI s0) (zL s0) (zA s0 16) (zA s0 17) (zA s0 21)) s.heap) (hf : Mo_isKnownNew_b118 N kh5 kh58 s0 v1 v2 v4 v5 v6 t0 = some y) (ls : Array Slot) (hl : lv_has ls 7 [(0, .ref o0), (1, .int v1), (2, .int v2), (4, .int v4), (5, .int v5), (6, .int v6)]) : W p l e rm_Mo_isKnownNew s m args below meth c s.heap [] 0 0 (MQ below (zSi y) args s 0 0 (fun _ => False)) (F0 m 118 ls [.int t0]) := by
  obtain ⟨hx, hb, hr, hml, hown, hT, hk, hK⟩ := id C0
  refine lv_istore_n (lv' := [(3, .int t0), (0, .ref o0), (1, .int v1), (2, .int v2), (4, .int v4), (5, .int v5), (6, .int v6)]) hx hb dX11_isKnownNew_118 rfl hl (by decide) rfl (fun ls hl => ?_)
  refine lv_iinc (v := v6 + 1) (lv' := [(6, .int (v6 + 1)), (3, .int t0), (0, .ref o0), (1, .int v1), (2, .int v2), (4, .int v4), (5, .int v5)]) hx hb dX11_isKnownNew_119 hl (k := 6) rfl rfl (by decide) rfl (fun ls hl => ?_)
  refine lv_goto (tgt := 58) hx hb dX11_isKnownNew_122 (by decide) ?_
  exact hk58 t0 (v6 + 1) hf _ (lv_sub hl [2, 3, 4, 1, 5, 6, 0] rfl)
set_option maxHeartbeats 4000000 in
set_option maxRecDepth 100000 in
theorem k_Mo_isKnownNew_b117 {p : Program} {l : Launch} {e : Env} {s : State} {m : MethodId} {args : Array Value} {below : List Frame} {meth : Method} {c : Code} {dC : Nat → ClassId} {dI : Nat → Nat → Nat} {cy : Nat → ClassId} {o0 : Nat} {a0 : Nat → Nat} {N : Nat} {kh5 : Int32 → Int32 → Option (Int32)} {kh58 : Int32 → Int32 → Option (Int32)} {y : Int32} (C0 : zCx p s m args meth c cX11_isKnownNew 7 (some .boolean) RX11 (dC, dI) cy) (s0 : zSt) (v1 : Int32) (v2 : Int32) (v4 : Int32) (v5 : Int32) (v6 : Int32) (hk5 : ∀ (v3 : Int32) (v4 : Int32) (_ : kh5 v3 v4 = some y) (ls : Array Slot) (_ : lv_has ls 7 [(0, .ref o0), (1, .int v1), (2, .int v2), (3, .int v3), (4, .int v4)]), W p l e rm_Mo_isKnownNew s m args below meth c s.heap [] 0 0 (MQ below (zSi y) args s 0 0 (fun _ => False)) (F0 m 5 ls [])) (hk58 : ∀ (v3 : Int32) (v6 : Int32) (_ : kh58 v3 v6 = some y) (ls : Array Slot) (_ : lv_has ls 7 [(0, .ref o0), (1, .int v1), (2, .int v2), (3, .int v3), (4, .int v4), (5, .int v5), (6, .int v6)]), W p l e rm_Mo_isKnownNew s m args below meth c s.heap [] 0 0 (MQ below (zSi y) args s 0 0 (fun _ => False)) (F0 m 58 ls [])) (hP : va_P (dC, dI) vwCl (wd_Mo_isKnownNew cy o0 a0 (zI s0) (zL s0) (zA s0 16) (zA s0 17) (zA s0 21)) s.heap) (hf : Mo_isKnownNew_b117 N kh5 kh58 s0 v1 v2 v4 v5 v6 = some y) (ls : Array Slot) (hl : lv_has ls 7 [(0, .ref o0), (1, .int v1), (2, .int v2), (4, .int v4), (5, .int v5), (6, .int v6)]) : W p l e rm_Mo_isKnownNew s m args below meth c s.heap [] 0 0 (MQ below (zSi y) args s 0 0 (fun _ => False)) (F0 m 117 ls []) := by
  obtain ⟨hx, hb, hr, hml, hown, hT, hk, hK⟩ := id C0
  refine lv_iconst (v := 0) hx hb dX11_isKnownNew_117 (by decide) ?_
  exact k_Mo_isKnownNew_b118 C0 s0 v1 v2 v4 v5 v6 0 hk5 hk58 hP hf _ (lv_sub hl [0, 1, 2, 3, 4, 5] rfl)
set_option maxHeartbeats 4000000 in
set_option maxRecDepth 100000 in
theorem k_Mo_isKnownNew_b113 {p : Program} {l : Launch} {e : Env} {s : State} {m : MethodId} {args : Array Value} {below : List Frame} {meth : Method} {c : Code} {dC : Nat → ClassId} {dI : Nat → Nat → Nat} {cy : Nat → ClassId} {o0 : Nat} {a0 : Nat → Nat} {N : Nat} {kh5 : Int32 → Int32 → Option (Int32)} {kh58 : Int32 → Int32 → Option (Int32)} {y : Int32} (C0 : zCx p s m args meth c cX11_isKnownNew 7 (some .boolean) RX11 (dC, dI) cy) (s0 : zSt) (v1 : Int32) (v2 : Int32) (v4 : Int32) (v5 : Int32) (v6 : Int32) (hk5 : ∀ (v3 : Int32) (v4 : Int32) (_ : kh5 v3 v4 = some y) (ls : Array Slot) (_ : lv_has ls 7 [(0, .ref o0), (1, .int v1), (2, .int v2), (3, .int v3), (4, .int v4)]), W p l e rm_Mo_isKnownNew s m args below meth c s.heap [] 0 0 (MQ below (zSi y) args s 0 0 (fun _ => False)) (F0 m 5 ls [])) (hk58 : ∀ (v3 : Int32) (v6 : Int32) (_ : kh58 v3 v6 = some y) (ls : Array Slot) (_ : lv_has ls 7 [(0, .ref o0), (1, .int v1), (2, .int v2), (3, .int v3), (4, .int v4), (5, .int v5), (6, .int v6)]), W p l e rm_Mo_isKnownNew s m args below meth c s.heap [] 0 0 (MQ below (zSi y) args s 0 0 (fun _ => False)) (F0 m 58 ls [])) (hP : va_P (dC, dI) vwCl (wd_Mo_isKnownNew cy o0 a0 (zI s0) (zL s0) (zA s0 16) (zA s0 17) (zA s0 21)) s.heap) (hf : Mo_isKnownNew_b113 N kh5 kh58 s0 v1 v2 v4 v5 v6 = some y) (ls : Array Slot) (hl : lv_has ls 7 [(0, .ref o0), (1, .int v1), (2, .int v2), (4, .int v4), (5, .int v5), (6, .int v6)]) : W p l e rm_Mo_isKnownNew s m args below meth c s.heap [] 0 0 (MQ below (zSi y) args s 0 0 (fun _ => False)) (F0 m 113 ls []) := by
  obtain ⟨hx, hb, hr, hml, hown, hT, hk, hK⟩ := id C0
  refine lv_iconst (v := 1) hx hb dX11_isKnownNew_113 (by decide) ?_
  refine lv_goto (tgt := 118) hx hb dX11_isKnownNew_114 (by decide) ?_
  exact k_Mo_isKnownNew_b118 C0 s0 v1 v2 v4 v5 v6 1 hk5 hk58 hP hf _ (lv_sub hl [0, 1, 2, 3, 4, 5] rfl)
set_option maxHeartbeats 4000000 in
set_option maxRecDepth 100000 in
theorem k_Mo_isKnownNew_b58 {p : Program} {l : Launch} {e : Env} {s : State} {m : MethodId} {args : Array Value} {below : List Frame} {meth : Method} {c : Code} {dC : Nat → ClassId} {dI : Nat → Nat → Nat} {cy : Nat → ClassId} {o0 : Nat} {a0 : Nat → Nat} {N : Nat} {kh5 : Int32 → Int32 → Option (Int32)} {kh58 : Int32 → Int32 → Option (Int32)} {y : Int32} (C0 : zCx p s m args meth c cX11_isKnownNew 7 (some .boolean) RX11 (dC, dI) cy) (s0 : zSt) (v1 : Int32) (v2 : Int32) (v3 : Int32) (v4 : Int32) (v5 : Int32) (v6 : Int32) (hk5 : ∀ (v3 : Int32) (v4 : Int32) (_ : kh5 v3 v4 = some y) (ls : Array Slot) (_ : lv_has ls 7 [(0, .ref o0), (1, .int v1), (2, .int v2), (3, .int v3), (4, .int v4)]), W p l e rm_Mo_isKnownNew s m args below meth c s.heap [] 0 0 (MQ below (zSi y) args s 0 0 (fun _ => False)) (F0 m 5 ls [])) (hk58 : ∀ (v3 : Int32) (v6 : Int32) (_ : kh58 v3 v6 = some y) (ls : Array Slot) (_ : lv_has ls 7 [(0, .ref o0), (1, .int v1), (2, .int v2), (3, .int v3), (4, .int v4), (5, .int v5), (6, .int v6)]), W p l e rm_Mo_isKnownNew s m args below meth c s.heap [] 0 0 (MQ below (zSi y) args s 0 0 (fun _ => False)) (F0 m 58 ls [])) (hP : va_P (dC, dI) vwCl (wd_Mo_isKnownNew cy o0 a0 (zI s0) (zL s0) (zA s0 16) (zA s0 17) (zA s0 21)) s.heap) (hf : Mo_isKnownNew_b58 N kh5 kh58 s0 v1 v2 v3 v4 v5 v6 = some y) (ls : Array Slot) (hl : lv_has ls 7 [(0, .ref o0), (1, .int v1), (2, .int v2), (3, .int v3), (4, .int v4), (5, .int v5), (6, .int v6)]) : W p l e rm_Mo_isKnownNew s m args below meth c s.heap [] 0 0 (MQ below (zSi y) args s 0 0 (fun _ => False)) (F0 m 58 ls []) := by
  obtain ⟨hx, hb, hr, hml, hown, hT, hk, hK⟩ := id C0
  refine lv_iload hx hb dX11_isKnownNew_58 (lv_at hl 6 rfl) ?_
  refine lv_iload hx hb dX11_isKnownNew_60 (lv_at hl 4 rfl) ?_
  refine lv_icmp_ge (tgt := 125) hx hb dX11_isKnownNew_62 (by decide) (fun hb_1 => ?_) (fun hb_1 => ?_)
  · have hf := zif_t hb_1 hf
    refine lv_iinc (v := v4 + 1) (lv' := [(4, .int (v4 + 1)), (0, .ref o0), (1, .int v1), (2, .int v2), (3, .int v3), (5, .int v5), (6, .int v6)]) hx hb dX11_isKnownNew_125 hl (k := 4) rfl rfl (by decide) rfl (fun ls hl => ?_)
    refine lv_goto (tgt := 5) hx hb dX11_isKnownNew_128 (by decide) ?_
    exact hk5 v3 (v4 + 1) hf _ (lv_sub hl [1, 2, 3, 4, 0] rfl)
  · have hf := zif_f hb_1 hf
    refine lv_iload_n hx hb dX11_isKnownNew_65 rfl (lv_at hl 3 rfl) ?_
    refine lv_if_eq (tgt := 117) hx hb dX11_isKnownNew_66 (by decide) (fun hb_2 => ?_) (fun hb_2 => ?_)
    · have hf := zif_t hb_2 hf
      exact k_Mo_isKnownNew_b117 C0 s0 v1 v2 v4 v5 v6 hk5 hk58 hP hf _ (lv_sub hl [0, 1, 2, 4, 5, 6] rfl)
    · have hf := zif_f hb_2 hf
      refine lv_aload_n hx hb dX11_isKnownNew_69 rfl (lv_at hl 0 rfl) ?_
      refine zget (v := .ref (a0 16)) hx hb hown hT hK hP inX11 rfl smX11 0 rfl 16 (by decide) tb_1018 rfl dX11_isKnownNew_70 ?_
      refine lv_iload hx hb dX11_isKnownNew_73 (lv_at hl 5 rfl) ?_
      obtain ⟨hi3, hf⟩ := zck_some hf
      refine va_iald hx hb hK.1 hP 1 0 rfl rfl hi3 dX11_isKnownNew_75 ?_
      refine lv_aload_n hx hb dX11_isKnownNew_76 rfl (lv_at hl 0 rfl) ?_
      refine zget (v := .ref (a0 16)) hx hb hown hT hK hP inX11 rfl smX11 0 rfl 16 (by decide) tb_1018 rfl dX11_isKnownNew_77 ?_
      refine lv_aload_n hx hb dX11_isKnownNew_80 rfl (lv_at hl 0 rfl) ?_
      refine zget (v := .ref (a0 21)) hx hb hown hT hK hP inX11 rfl smX11 0 rfl 21 (by decide) tb_1023 rfl dX11_isKnownNew_81 ?_
      refine lv_iload hx hb dX11_isKnownNew_84 (lv_at hl 6 rfl) ?_
      obtain ⟨hi4, hf⟩ := zck_some hf
      refine va_iald hx hb hK.1 hP 3 0 rfl rfl hi4 dX11_isKnownNew_86 ?_
      obtain ⟨hi5, hf⟩ := zck_some hf
      refine va_iald hx hb hK.1 hP 1 0 rfl rfl hi5 dX11_isKnownNew_87 ?_
      refine lv_icmp_ne (tgt := 113) hx hb dX11_isKnownNew_88 (by decide) (fun hb_6 => ?_) (fun hb_6 => ?_)
      · have hf := zif_f hb_6 hf
        exact k_Mo_isKnownNew_b113 C0 s0 v1 v2 v4 v5 v6 hk5 hk58 hP hf _ (lv_sub hl [0, 1, 2, 4, 5, 6] rfl)
      · have hf := zif_t hb_6 hf
        refine lv_aload_n hx hb dX11_isKnownNew_91 rfl (lv_at hl 0 rfl) ?_
        refine zget (v := .ref (a0 17)) hx hb hown hT hK hP inX11 rfl smX11 0 rfl 17 (by decide) tb_1019 rfl dX11_isKnownNew_92 ?_
        refine lv_iload hx hb dX11_isKnownNew_95 (lv_at hl 5 rfl) ?_
        obtain ⟨hi7, hf⟩ := zck_some hf
        refine va_iald hx hb hK.1 hP 2 0 rfl rfl hi7 dX11_isKnownNew_97 ?_
        refine lv_aload_n hx hb dX11_isKnownNew_98 rfl (lv_at hl 0 rfl) ?_
        refine zget (v := .ref (a0 17)) hx hb hown hT hK hP inX11 rfl smX11 0 rfl 17 (by decide) tb_1019 rfl dX11_isKnownNew_99 ?_
        refine lv_aload_n hx hb dX11_isKnownNew_102 rfl (lv_at hl 0 rfl) ?_
        refine zget (v := .ref (a0 21)) hx hb hown hT hK hP inX11 rfl smX11 0 rfl 21 (by decide) tb_1023 rfl dX11_isKnownNew_103 ?_
        refine lv_iload hx hb dX11_isKnownNew_106 (lv_at hl 6 rfl) ?_
        obtain ⟨hi8, hf⟩ := zck_some hf
        refine va_iald hx hb hK.1 hP 3 0 rfl rfl hi8 dX11_isKnownNew_108 ?_
        obtain ⟨hi9, hf⟩ := zck_some hf
        refine va_iald hx hb hK.1 hP 2 0 rfl rfl hi9 dX11_isKnownNew_109 ?_
        refine lv_icmp_eq (tgt := 117) hx hb dX11_isKnownNew_110 (by decide) (fun hb_10 => ?_) (fun hb_10 => ?_)
        · have hf := zif_t hb_10 hf
          exact k_Mo_isKnownNew_b117 C0 s0 v1 v2 v4 v5 v6 hk5 hk58 hP hf _ (lv_sub hl [0, 1, 2, 4, 5, 6] rfl)
        · have hf := zif_f hb_10 hf
          exact k_Mo_isKnownNew_b113 C0 s0 v1 v2 v4 v5 v6 hk5 hk58 hP hf _ (lv_sub hl [0, 1, 2, 4, 5, 6] rfl)
set_option maxHeartbeats 4000000 in
set_option maxRecDepth 100000 in
theorem k_Mo_isKnownNew_h58 {p : Program} {l : Launch} {e : Env} {s : State} {m : MethodId} {args : Array Value} {below : List Frame} {meth : Method} {c : Code} {dC : Nat → ClassId} {dI : Nat → Nat → Nat} {cy : Nat → ClassId} {o0 : Nat} {a0 : Nat → Nat} {N : Nat} {kh5 : Int32 → Int32 → Option (Int32)} {y : Int32} (C0 : zCx p s m args meth c cX11_isKnownNew 7 (some .boolean) RX11 (dC, dI) cy) (s0 : zSt) (v1 : Int32) (v2 : Int32) (v4 : Int32) (v5 : Int32) (hk5 : ∀ (v3 : Int32) (v4 : Int32) (_ : kh5 v3 v4 = some y) (ls : Array Slot) (_ : lv_has ls 7 [(0, .ref o0), (1, .int v1), (2, .int v2), (3, .int v3), (4, .int v4)]), W p l e rm_Mo_isKnownNew s m args below meth c s.heap [] 0 0 (MQ below (zSi y) args s 0 0 (fun _ => False)) (F0 m 5 ls [])) (hP : va_P (dC, dI) vwCl (wd_Mo_isKnownNew cy o0 a0 (zI s0) (zL s0) (zA s0 16) (zA s0 17) (zA s0 21)) s.heap) : ∀ (n : Nat) (v3 : Int32) (v6 : Int32) (hf : Mo_isKnownNew_h58 N kh5 s0 v1 v2 v4 v5 n v3 v6 = some y) (ls : Array Slot) (hl : lv_has ls 7 [(0, .ref o0), (1, .int v1), (2, .int v2), (3, .int v3), (4, .int v4), (5, .int v5), (6, .int v6)]), W p l e rm_Mo_isKnownNew s m args below meth c s.heap [] 0 0 (MQ below (zSi y) args s 0 0 (fun _ => False)) (F0 m 58 ls []) := by
  intro n
  induction n with
  | zero => intro v3 v6 hf; cases hf
  | succ n ih =>
    intro v3 v6 hf ls hl
    have hf : Mo_isKnownNew_b58 N kh5 (Mo_isKnownNew_h58 N kh5 s0 v1 v2 v4 v5 n) s0 v1 v2 v3 v4 v5 v6 = some y := hf
    exact k_Mo_isKnownNew_b58 C0 s0 v1 v2 v3 v4 v5 v6 hk5 (fun v3 v6 hf ls hl => ih v3 v6 hf ls hl) hP hf ls hl
set_option maxHeartbeats 4000000 in
set_option maxRecDepth 100000 in
theorem k_Mo_isKnownNew_b54 {p : Program} {l : Launch} {e : Env} {s : State} {m : MethodId} {args : Array Value} {below : List Frame} {meth : Method} {c : Code} {dC : Nat → ClassId} {dI : Nat → Nat → Nat} {cy : Nat → ClassId} {o0 : Nat} {a0 : Nat → Nat} {N : Nat} {kh5 : Int32 → Int32 → Option (Int32)} {y : Int32} (C0 : zCx p s m args meth c cX11_isKnownNew 7 (some .boolean) RX11 (dC, dI) cy) (s0 : zSt) (v1 : Int32) (v2 : Int32) (v4 : Int32) (v5 : Int32) (t0 : Int32) (hk5 : ∀ (v3 : Int32) (v4 : Int32) (_ : kh5 v3 v4 = some y) (ls : Array Slot) (_ : lv_has ls 7 [(0, .ref o0), (1, .int v1), (2, .int v2), (3, .int v3), (4, .int v4)]), W p l e rm_Mo_isKnownNew s m args below meth c s.heap [] 0 0 (MQ below (zSi y) args s 0 0 (fun _ => False)) (F0 m 5 ls [])) (hP : va_P (dC, dI) vwCl (wd_Mo_isKnownNew cy o0 a0 (zI s0) (zL s0) (zA s0 16) (zA s0 17) (zA s0 21)) s.heap) (hf : Mo_isKnownNew_b54 N kh5 s0 v1 v2 v4 v5 t0 = some y) (ls : Array Slot) (hl : lv_has ls 7 [(0, .ref o0), (1, .int v1), (2, .int v2), (4, .int v4), (5, .int v5)]) : W p l e rm_Mo_isKnownNew s m args below meth c s.heap [] 0 0 (MQ below (zSi y) args s 0 0 (fun _ => False)) (F0 m 54 ls [.int t0]) := by
  obtain ⟨hx, hb, hr, hml, hown, hT, hk, hK⟩ := id C0
  refine lv_istore_n (lv' := [(3, .int t0), (0, .ref o0), (1, .int v1), (2, .int v2), (4, .int v4), (5, .int v5)]) hx hb dX11_isKnownNew_54 rfl hl (by decide) rfl (fun ls hl => ?_)
  refine lv_iconst (v := 0) hx hb dX11_isKnownNew_55 (by decide) ?_
  refine lv_istore (lv' := [(6, .int 0), (3, .int t0), (0, .ref o0), (1, .int v1), (2, .int v2), (4, .int v4), (5, .int v5)]) hx hb dX11_isKnownNew_56 hl (by decide) rfl (fun ls hl => ?_)
  exact k_Mo_isKnownNew_h58 C0 s0 v1 v2 v4 v5 hk5 hP N t0 0 hf _ (lv_sub hl [2, 3, 4, 1, 5, 6, 0] rfl)
set_option maxHeartbeats 4000000 in
set_option maxRecDepth 100000 in
theorem k_Mo_isKnownNew_b53 {p : Program} {l : Launch} {e : Env} {s : State} {m : MethodId} {args : Array Value} {below : List Frame} {meth : Method} {c : Code} {dC : Nat → ClassId} {dI : Nat → Nat → Nat} {cy : Nat → ClassId} {o0 : Nat} {a0 : Nat → Nat} {N : Nat} {kh5 : Int32 → Int32 → Option (Int32)} {y : Int32} (C0 : zCx p s m args meth c cX11_isKnownNew 7 (some .boolean) RX11 (dC, dI) cy) (s0 : zSt) (v1 : Int32) (v2 : Int32) (v4 : Int32) (v5 : Int32) (hk5 : ∀ (v3 : Int32) (v4 : Int32) (_ : kh5 v3 v4 = some y) (ls : Array Slot) (_ : lv_has ls 7 [(0, .ref o0), (1, .int v1), (2, .int v2), (3, .int v3), (4, .int v4)]), W p l e rm_Mo_isKnownNew s m args below meth c s.heap [] 0 0 (MQ below (zSi y) args s 0 0 (fun _ => False)) (F0 m 5 ls [])) (hP : va_P (dC, dI) vwCl (wd_Mo_isKnownNew cy o0 a0 (zI s0) (zL s0) (zA s0 16) (zA s0 17) (zA s0 21)) s.heap) (hf : Mo_isKnownNew_b53 N kh5 s0 v1 v2 v4 v5 = some y) (ls : Array Slot) (hl : lv_has ls 7 [(0, .ref o0), (1, .int v1), (2, .int v2), (4, .int v4), (5, .int v5)]) : W p l e rm_Mo_isKnownNew s m args below meth c s.heap [] 0 0 (MQ below (zSi y) args s 0 0 (fun _ => False)) (F0 m 53 ls []) := by
  obtain ⟨hx, hb, hr, hml, hown, hT, hk, hK⟩ := id C0
  refine lv_iconst (v := 0) hx hb dX11_isKnownNew_53 (by decide) ?_
  exact k_Mo_isKnownNew_b54 C0 s0 v1 v2 v4 v5 0 hk5 hP hf _ (lv_sub hl [0, 1, 2, 3, 4] rfl)
set_option maxHeartbeats 4000000 in
set_option maxRecDepth 100000 in
theorem k_Mo_isKnownNew_b49 {p : Program} {l : Launch} {e : Env} {s : State} {m : MethodId} {args : Array Value} {below : List Frame} {meth : Method} {c : Code} {dC : Nat → ClassId} {dI : Nat → Nat → Nat} {cy : Nat → ClassId} {o0 : Nat} {a0 : Nat → Nat} {N : Nat} {kh5 : Int32 → Int32 → Option (Int32)} {y : Int32} (C0 : zCx p s m args meth c cX11_isKnownNew 7 (some .boolean) RX11 (dC, dI) cy) (s0 : zSt) (v1 : Int32) (v2 : Int32) (v4 : Int32) (v5 : Int32) (hk5 : ∀ (v3 : Int32) (v4 : Int32) (_ : kh5 v3 v4 = some y) (ls : Array Slot) (_ : lv_has ls 7 [(0, .ref o0), (1, .int v1), (2, .int v2), (3, .int v3), (4, .int v4)]), W p l e rm_Mo_isKnownNew s m args below meth c s.heap [] 0 0 (MQ below (zSi y) args s 0 0 (fun _ => False)) (F0 m 5 ls [])) (hP : va_P (dC, dI) vwCl (wd_Mo_isKnownNew cy o0 a0 (zI s0) (zL s0) (zA s0 16) (zA s0 17) (zA s0 21)) s.heap) (hf : Mo_isKnownNew_b49 N kh5 s0 v1 v2 v4 v5 = some y) (ls : Array Slot) (hl : lv_has ls 7 [(0, .ref o0), (1, .int v1), (2, .int v2), (4, .int v4), (5, .int v5)]) : W p l e rm_Mo_isKnownNew s m args below meth c s.heap [] 0 0 (MQ below (zSi y) args s 0 0 (fun _ => False)) (F0 m 49 ls []) := by
  obtain ⟨hx, hb, hr, hml, hown, hT, hk, hK⟩ := id C0
  refine lv_iconst (v := 1) hx hb dX11_isKnownNew_49 (by decide) ?_
  refine lv_goto (tgt := 54) hx hb dX11_isKnownNew_50 (by decide) ?_
  exact k_Mo_isKnownNew_b54 C0 s0 v1 v2 v4 v5 1 hk5 hP hf _ (lv_sub hl [0, 1, 2, 3, 4] rfl)
set_option maxHeartbeats 4000000 in
set_option maxRecDepth 100000 in
theorem k_Mo_isKnownNew_b5 {p : Program} {l : Launch} {e : Env} {s : State} {m : MethodId} {args : Array Value} {below : List Frame} {meth : Method} {c : Code} {dC : Nat → ClassId} {dI : Nat → Nat → Nat} {cy : Nat → ClassId} {o0 : Nat} {a0 : Nat → Nat} {N : Nat} {kh5 : Int32 → Int32 → Option (Int32)} {y : Int32} (C0 : zCx p s m args meth c cX11_isKnownNew 7 (some .boolean) RX11 (dC, dI) cy) (s0 : zSt) (v1 : Int32) (v2 : Int32) (v3 : Int32) (v4 : Int32) (hk5 : ∀ (v3 : Int32) (v4 : Int32) (_ : kh5 v3 v4 = some y) (ls : Array Slot) (_ : lv_has ls 7 [(0, .ref o0), (1, .int v1), (2, .int v2), (3, .int v3), (4, .int v4)]), W p l e rm_Mo_isKnownNew s m args below meth c s.heap [] 0 0 (MQ below (zSi y) args s 0 0 (fun _ => False)) (F0 m 5 ls [])) (hP : va_P (dC, dI) vwCl (wd_Mo_isKnownNew cy o0 a0 (zI s0) (zL s0) (zA s0 16) (zA s0 17) (zA s0 21)) s.heap) (hf : Mo_isKnownNew_b5 N kh5 s0 v1 v2 v3 v4 = some y) (ls : Array Slot) (hl : lv_has ls 7 [(0, .ref o0), (1, .int v1), (2, .int v2), (3, .int v3), (4, .int v4)]) : W p l e rm_Mo_isKnownNew s m args below meth c s.heap [] 0 0 (MQ below (zSi y) args s 0 0 (fun _ => False)) (F0 m 5 ls []) := by
  obtain ⟨hx, hb, hr, hml, hown, hT, hk, hK⟩ := id C0
  refine lv_iload hx hb dX11_isKnownNew_5 (lv_at hl 4 rfl) ?_
  refine lv_aload_n hx hb dX11_isKnownNew_7 rfl (lv_at hl 0 rfl) ?_
  refine zget (v := .int (zI s0 30)) hx hb hown hT hK hP inX11 rfl smX11 0 rfl 30 (by decide) tb_1032 rfl dX11_isKnownNew_8 ?_
  refine lv_icmp_ge (tgt := 131) hx hb dX11_isKnownNew_11 (by decide) (fun hb_1 => ?_) (fun hb_1 => ?_)
  · have hf := zif_t hb_1 hf
    refine lv_iload_n hx hb dX11_isKnownNew_131 rfl (lv_at hl 3 rfl) ?_
    obtain ⟨hq2, hf⟩ := zcb_some hf
    cases hf
    exact zerz hx hb hr hk hq2 dX11_isKnownNew_132
  · have hf := zif_f hb_1 hf
    refine lv_aload_n hx hb dX11_isKnownNew_14 rfl (lv_at hl 0 rfl) ?_
    refine zget (v := .ref (a0 21)) hx hb hown hT hK hP inX11 rfl smX11 0 rfl 21 (by decide) tb_1023 rfl dX11_isKnownNew_15 ?_
    refine lv_iload hx hb dX11_isKnownNew_18 (lv_at hl 4 rfl) ?_
    obtain ⟨hi3, hf⟩ := zck_some hf
    refine va_iald hx hb hK.1 hP 3 0 rfl rfl hi3 dX11_isKnownNew_20 ?_
    refine lv_istore (lv' := [(5, .int ((zA s0 21) (Int32.toNatClampNeg v4))), (0, .ref o0), (1, .int v1), (2, .int v2), (3, .int v3), (4, .int v4)]) hx hb dX11_isKnownNew_21 hl (by decide) rfl (fun ls hl => ?_)
    refine lv_iload_n hx hb dX11_isKnownNew_23 rfl (lv_at hl 4 rfl) ?_
    refine lv_if_eq (tgt := 53) hx hb dX11_isKnownNew_24 (by decide) (fun hb_4 => ?_) (fun hb_4 => ?_)
    · have hf := zif_t hb_4 hf
      exact k_Mo_isKnownNew_b53 C0 s0 v1 v2 v4 ((zA s0 21) (Int32.toNatClampNeg v4)) hk5 hP hf _ (lv_sub hl [1, 2, 3, 5, 0] rfl)
    · have hf := zif_f hb_4 hf
      refine lv_aload_n hx hb dX11_isKnownNew_27 rfl (lv_at hl 1 rfl) ?_
      refine zget (v := .ref (a0 16)) hx hb hown hT hK hP inX11 rfl smX11 0 rfl 16 (by decide) tb_1018 rfl dX11_isKnownNew_28 ?_
      refine lv_iload hx hb dX11_isKnownNew_31 (lv_at hl 0 rfl) ?_
      obtain ⟨hi5, hf⟩ := zck_some hf
      refine va_iald hx hb hK.1 hP 1 0 rfl rfl hi5 dX11_isKnownNew_33 ?_
      refine lv_iload_n hx hb dX11_isKnownNew_34 rfl (lv_at hl 3 rfl) ?_
      refine lv_icmp_ne (tgt := 49) hx hb dX11_isKnownNew_35 (by decide) (fun hb_6 => ?_) (fun hb_6 => ?_)
      · have hf := zif_f hb_6 hf
        exact k_Mo_isKnownNew_b49 C0 s0 v1 v2 v4 ((zA s0 21) (Int32.toNatClampNeg v4)) hk5 hP hf _ (lv_sub hl [1, 2, 3, 5, 0] rfl)
      · have hf := zif_t hb_6 hf
        refine lv_aload_n hx hb dX11_isKnownNew_38 rfl (lv_at hl 1 rfl) ?_
        refine zget (v := .ref (a0 17)) hx hb hown hT hK hP inX11 rfl smX11 0 rfl 17 (by decide) tb_1019 rfl dX11_isKnownNew_39 ?_
        refine lv_iload hx hb dX11_isKnownNew_42 (lv_at hl 0 rfl) ?_
        obtain ⟨hi7, hf⟩ := zck_some hf
        refine va_iald hx hb hK.1 hP 2 0 rfl rfl hi7 dX11_isKnownNew_44 ?_
        refine lv_iload_n hx hb dX11_isKnownNew_45 rfl (lv_at hl 2 rfl) ?_
        refine lv_icmp_eq (tgt := 53) hx hb dX11_isKnownNew_46 (by decide) (fun hb_8 => ?_) (fun hb_8 => ?_)
        · have hf := zif_t hb_8 hf
          exact k_Mo_isKnownNew_b53 C0 s0 v1 v2 v4 ((zA s0 21) (Int32.toNatClampNeg v4)) hk5 hP hf _ (lv_sub hl [1, 2, 3, 5, 0] rfl)
        · have hf := zif_f hb_8 hf
          exact k_Mo_isKnownNew_b49 C0 s0 v1 v2 v4 ((zA s0 21) (Int32.toNatClampNeg v4)) hk5 hP hf _ (lv_sub hl [1, 2, 3, 5, 0] rfl)
set_option maxHeartbeats 4000000 in
set_option maxRecDepth 100000 in
theorem k_Mo_isKnownNew_h5 {p : Program} {l : Launch} {e : Env} {s : State} {m : MethodId} {args : Array Value} {below : List Frame} {meth : Method} {c : Code} {dC : Nat → ClassId} {dI : Nat → Nat → Nat} {cy : Nat → ClassId} {o0 : Nat} {a0 : Nat → Nat} {N : Nat} {y : Int32} (C0 : zCx p s m args meth c cX11_isKnownNew 7 (some .boolean) RX11 (dC, dI) cy) (s0 : zSt) (v1 : Int32) (v2 : Int32) (hP : va_P (dC, dI) vwCl (wd_Mo_isKnownNew cy o0 a0 (zI s0) (zL s0) (zA s0 16) (zA s0 17) (zA s0 21)) s.heap) : ∀ (n : Nat) (v3 : Int32) (v4 : Int32) (hf : Mo_isKnownNew_h5 N s0 v1 v2 n v3 v4 = some y) (ls : Array Slot) (hl : lv_has ls 7 [(0, .ref o0), (1, .int v1), (2, .int v2), (3, .int v3), (4, .int v4)]), W p l e rm_Mo_isKnownNew s m args below meth c s.heap [] 0 0 (MQ below (zSi y) args s 0 0 (fun _ => False)) (F0 m 5 ls []) := by
  intro n
  induction n with
  | zero => intro v3 v4 hf; cases hf
  | succ n ih =>
    intro v3 v4 hf ls hl
    have hf : Mo_isKnownNew_b5 N (Mo_isKnownNew_h5 N s0 v1 v2 n) s0 v1 v2 v3 v4 = some y := hf
    exact k_Mo_isKnownNew_b5 C0 s0 v1 v2 v3 v4 (fun v3 v4 hf ls hl => ih v3 v4 hf ls hl) hP hf ls hl
set_option maxHeartbeats 4000000 in
set_option maxRecDepth 100000 in
theorem k_Mo_isKnownNew_b0 {p : Program} {l : Launch} {e : Env} {s : State} {m : MethodId} {args : Array Value} {below : List Frame} {meth : Method} {c : Code} {dC : Nat → ClassId} {dI : Nat → Nat → Nat} {cy : Nat → ClassId} {o0 : Nat} {a0 : Nat → Nat} {N : Nat} {y : Int32} (C0 : zCx p s m args meth c cX11_isKnownNew 7 (some .boolean) RX11 (dC, dI) cy) (s0 : zSt) (v1 : Int32) (v2 : Int32) (hP : va_P (dC, dI) vwCl (wd_Mo_isKnownNew cy o0 a0 (zI s0) (zL s0) (zA s0 16) (zA s0 17) (zA s0 21)) s.heap) (hf : Mo_isKnownNew_b0 N s0 v1 v2 = some y) (ls : Array Slot) (hl : lv_has ls 7 [(0, .ref o0), (1, .int v1), (2, .int v2)]) : W p l e rm_Mo_isKnownNew s m args below meth c s.heap [] 0 0 (MQ below (zSi y) args s 0 0 (fun _ => False)) (F0 m 0 ls []) := by
  obtain ⟨hx, hb, hr, hml, hown, hT, hk, hK⟩ := id C0
  refine lv_iconst (v := 1) hx hb dX11_isKnownNew_0 (by decide) ?_
  refine lv_istore_n (lv' := [(3, .int 1), (0, .ref o0), (1, .int v1), (2, .int v2)]) hx hb dX11_isKnownNew_1 rfl hl (by decide) rfl (fun ls hl => ?_)
  refine lv_iconst (v := 0) hx hb dX11_isKnownNew_2 (by decide) ?_
  refine lv_istore (lv' := [(4, .int 0), (3, .int 1), (0, .ref o0), (1, .int v1), (2, .int v2)]) hx hb dX11_isKnownNew_3 hl (by decide) rfl (fun ls hl => ?_)
  exact k_Mo_isKnownNew_h5 C0 s0 v1 v2  hP N 1 0 hf _ (lv_sub hl [2, 3, 4, 1, 0] rfl)
set_option maxHeartbeats 4000000 in
set_option maxRecDepth 100000 in
theorem c_Mo_isKnownNew {l : Launch} {dC : Nat → ClassId} {dI : Nat → Nat → Nat} {cy : Nat → ClassId} {N : Nat} (o0 : Nat) (a0 : Nat → Nat) (s0 : zSt) (v1 : Int32) (v2 : Int32) {y : Int32} (hf : Mo_isKnownNew N s0 v1 v2 = some y) : Met l yX11_isKnownNew (.code yX11_isKnownNew cX11_isKnownNew 7 (some .boolean) :: zt) rm_Mo_isKnownNew (va_Pc [.ref o0, .int v1, .int v2] (zRd (dC, dI) cy (wd_Mo_isKnownNew cy o0 a0 (zI s0) (zL s0) (zA s0 16) (zA s0 17) (zA s0 21)))) (zSi y) 0 0 (fun _ => False) :=
  zentR (by decide +kernel) (Nat.le_of_ble_eq_true rfl) (fun p e s m below meth c C0 hP ls hl => k_Mo_isKnownNew_b0 C0 s0 v1 v2 hP hf ls hl)
def wd_Mo_nearest (cy : Nat → ClassId) (o0 : Nat) (a0 : Nat → Nat) (g0 : Nat → Int32) (h0 : Nat → Int64) (x0_16 : Nat → Int32) : va_W := [(o0, .inr (11, fs_Mo a0 g0 h0)), (a0 16, .inl (cy 0, 11, .inl x0_16))]
def rm_Mo_nearest : Room := { frames := 2, cells := 0, slots := 0, locals := 60 }
theorem rm_ok_Mo_nearest_Mo_modulo : rm_Mo_modulo.cells = 0 ∧ rm_Mo_modulo.slots = 0 ∧ rm_Mo_modulo.frames + 1 ≤ rm_Mo_nearest.frames ∧ 8 + (1 + 11) + rm_Mo_modulo.locals ≤ rm_Mo_nearest.locals := by decide
set_option maxHeartbeats 4000000 in
set_option maxRecDepth 100000 in
theorem k_Mo_nearest_b73 {p : Program} {l : Launch} {e : Env} {s : State} {m : MethodId} {args : Array Value} {below : List Frame} {meth : Method} {c : Code} {dC : Nat → ClassId} {dI : Nat → Nat → Nat} {cy : Nat → ClassId} {o0 : Nat} {a0 : Nat → Nat} {N : Nat} {kh6 : Int32 → Int32 → Option (Int32)} {y : Int32} (C0 : zCx p s m args meth c cX11_nearest 6 (some .int) RX11 (dC, dI) cy) (s0 : zSt) (v1 : Int32) (v2 : Int32) (v3 : Int32) (v4 : Int32) (hk6 : ∀ (v3 : Int32) (v4 : Int32) (_ : kh6 v3 v4 = some y) (ls : Array Slot) (_ : lv_has ls 6 [(0, .ref o0), (1, .int v1), (2, .int v2), (3, .int v3), (4, .int v4)]), W p l e rm_Mo_nearest s m args below meth c s.heap [] 0 0 (MQ below (zSi y) args s 0 0 (fun _ => False)) (F0 m 6 ls [])) (hP : va_P (dC, dI) vwCl (wd_Mo_nearest cy o0 a0 (zI s0) (zL s0) (zA s0 16)) s.heap) (hf : Mo_nearest_b73 N kh6 s0 v1 v2 v3 v4 = some y) (ls : Array Slot) (hl : lv_has ls 6 [(0, .ref o0), (1, .int v1), (2, .int v2), (3, .int v3), (4, .int v4)]) : W p l e rm_Mo_nearest s m args below meth c s.heap [] 0 0 (MQ below (zSi y) args s 0 0 (fun _ => False)) (F0 m 73 ls []) := by
  obtain ⟨hx, hb, hr, hml, hown, hT, hk, hK⟩ := id C0
  refine lv_iinc (v := v4 + 1) (lv' := [(4, .int (v4 + 1)), (0, .ref o0), (1, .int v1), (2, .int v2), (3, .int v3)]) hx hb dX11_nearest_73 hl (k := 4) rfl rfl (by decide) rfl (fun ls hl => ?_)
  refine lv_goto (tgt := 6) hx hb dX11_nearest_76 (by decide) ?_
  exact hk6 v3 (v4 + 1) hf _ (lv_sub hl [1, 2, 3, 4, 0] rfl)
set_option maxHeartbeats 4000000 in
set_option maxRecDepth 100000 in
theorem k_Mo_nearest_b72 {p : Program} {l : Launch} {e : Env} {s : State} {m : MethodId} {args : Array Value} {below : List Frame} {meth : Method} {c : Code} {dC : Nat → ClassId} {dI : Nat → Nat → Nat} {cy : Nat → ClassId} {o0 : Nat} {a0 : Nat → Nat} {N : Nat} {kh6 : Int32 → Int32 → Option (Int32)} {y : Int32} (C0 : zCx p s m args meth c cX11_nearest 6 (some .int) RX11 (dC, dI) cy) (s0 : zSt) (v1 : Int32) (v2 : Int32) (v4 : Int32) (t0 : Int32) (hk6 : ∀ (v3 : Int32) (v4 : Int32) (_ : kh6 v3 v4 = some y) (ls : Array Slot) (_ : lv_has ls 6 [(0, .ref o0), (1, .int v1), (2, .int v2), (3, .int v3), (4, .int v4)]), W p l e rm_Mo_nearest s m args below meth c s.heap [] 0 0 (MQ below (zSi y) args s 0 0 (fun _ => False)) (F0 m 6 ls [])) (hP : va_P (dC, dI) vwCl (wd_Mo_nearest cy o0 a0 (zI s0) (zL s0) (zA s0 16)) s.heap) (hf : Mo_nearest_b72 N kh6 s0 v1 v2 v4 t0 = some y) (ls : Array Slot) (hl : lv_has ls 6 [(0, .ref o0), (1, .int v1), (2, .int v2), (4, .int v4)]) : W p l e rm_Mo_nearest s m args below meth c s.heap [] 0 0 (MQ below (zSi y) args s 0 0 (fun _ => False)) (F0 m 72 ls [.int t0]) := by
  obtain ⟨hx, hb, hr, hml, hown, hT, hk, hK⟩ := id C0
  refine lv_istore_n (lv' := [(3, .int t0), (0, .ref o0), (1, .int v1), (2, .int v2), (4, .int v4)]) hx hb dX11_nearest_72 rfl hl (by decide) rfl (fun ls hl => ?_)
  exact k_Mo_nearest_b73 C0 s0 v1 v2 t0 v4 hk6 hP hf _ (lv_sub hl [1, 2, 3, 0, 4] rfl)
set_option maxHeartbeats 4000000 in
set_option maxRecDepth 100000 in
theorem k_Mo_nearest_b58 {p : Program} {l : Launch} {e : Env} {s : State} {m : MethodId} {args : Array Value} {below : List Frame} {meth : Method} {c : Code} {dC : Nat → ClassId} {dI : Nat → Nat → Nat} {cy : Nat → ClassId} {o0 : Nat} {a0 : Nat → Nat} {N : Nat} {kh6 : Int32 → Int32 → Option (Int32)} {y : Int32} (C0 : zCx p s m args meth c cX11_nearest 6 (some .int) RX11 (dC, dI) cy) (s0 : zSt) (v1 : Int32) (v2 : Int32) (v3 : Int32) (v4 : Int32) (t0 : Int32) (hk6 : ∀ (v3 : Int32) (v4 : Int32) (_ : kh6 v3 v4 = some y) (ls : Array Slot) (_ : lv_has ls 6 [(0, .ref o0), (1, .int v1), (2, .int v2), (3, .int v3), (4, .int v4)]), W p l e rm_Mo_nearest s m args below meth c s.heap [] 0 0 (MQ below (zSi y) args s 0 0 (fun _ => False)) (F0 m 6 ls [])) (hP : va_P (dC, dI) vwCl (wd_Mo_nearest cy o0 a0 (zI s0) (zL s0) (zA s0 16)) s.heap) (hf : Mo_nearest_b58 N kh6 s0 v1 v2 v3 v4 t0 = some y) (ls : Array Slot) (hl : lv_has ls 6 [(0, .ref o0), (1, .int v1), (2, .int v2), (3, .int v3), (4, .int v4)]) : W p l e rm_Mo_nearest s m args below meth c s.heap [] 0 0 (MQ below (zSi y) args s 0 0 (fun _ => False)) (F0 m 58 ls [.int t0]) := by
  obtain ⟨hx, hb, hr, hml, hown, hT, hk, hK⟩ := id C0
  refine lv_istore (lv' := [(5, .int t0), (0, .ref o0), (1, .int v1), (2, .int v2), (3, .int v3), (4, .int v4)]) hx hb dX11_nearest_58 hl (by decide) rfl (fun ls hl => ?_)
  refine lv_iload hx hb dX11_nearest_60 (lv_at hl 0 rfl) ?_
  refine lv_iload_n hx hb dX11_nearest_62 rfl (lv_at hl 4 rfl) ?_
  refine lv_icmp_ge (tgt := 71) hx hb dX11_nearest_63 (by decide) (fun hb_1 => ?_) (fun hb_1 => ?_)
  · have hf := zif_t hb_1 hf
    refine lv_iload_n hx hb dX11_nearest_71 rfl (lv_at hl 4 rfl) ?_
    exact k_Mo_nearest_b72 C0 s0 v1 v2 v4 v3 hk6 hP hf _ (lv_sub hl [1, 2, 3, 5] rfl)
  · have hf := zif_f hb_1 hf
    refine lv_iload hx hb dX11_nearest_66 (lv_at hl 0 rfl) ?_
    refine lv_goto (tgt := 72) hx hb dX11_nearest_68 (by decide) ?_
    exact k_Mo_nearest_b72 C0 s0 v1 v2 v4 t0 hk6 hP hf _ (lv_sub hl [1, 2, 3, 5] rfl)
set_option maxHeartbeats 4000000 in
set_option maxRecDepth 100000 in
theorem k_Mo_nearest_b6 {p : Program} {l : Launch} {e : Env} {s : State} {m : MethodId} {args : Array Value} {below : List Frame} {meth : Method} {c : Code} {dC : Nat → ClassId} {dI : Nat → Nat → Nat} {cy : Nat → ClassId} {o0 : Nat} {a0 : Nat → Nat} {N : Nat} {kh6 : Int32 → Int32 → Option (Int32)} {y : Int32} (C0 : zCx p s m args meth c cX11_nearest 6 (some .int) RX11 (dC, dI) cy) (s0 : zSt) (v1 : Int32) (v2 : Int32) (v3 : Int32) (v4 : Int32) (hk6 : ∀ (v3 : Int32) (v4 : Int32) (_ : kh6 v3 v4 = some y) (ls : Array Slot) (_ : lv_has ls 6 [(0, .ref o0), (1, .int v1), (2, .int v2), (3, .int v3), (4, .int v4)]), W p l e rm_Mo_nearest s m args below meth c s.heap [] 0 0 (MQ below (zSi y) args s 0 0 (fun _ => False)) (F0 m 6 ls [])) (hP : va_P (dC, dI) vwCl (wd_Mo_nearest cy o0 a0 (zI s0) (zL s0) (zA s0 16)) s.heap) (hf : Mo_nearest_b6 N kh6 s0 v1 v2 v3 v4 = some y) (ls : Array Slot) (hl : lv_has ls 6 [(0, .ref o0), (1, .int v1), (2, .int v2), (3, .int v3), (4, .int v4)]) : W p l e rm_Mo_nearest s m args below meth c s.heap [] 0 0 (MQ below (zSi y) args s 0 0 (fun _ => False)) (F0 m 6 ls []) := by
  obtain ⟨hx, hb, hr, hml, hown, hT, hk, hK⟩ := id C0
  refine lv_iload hx hb dX11_nearest_6 (lv_at hl 4 rfl) ?_
  refine lv_aload_n hx hb dX11_nearest_8 rfl (lv_at hl 0 rfl) ?_
  refine zget (v := .int (zI s0 29)) hx hb hown hT hK hP inX11 rfl smX11 0 rfl 29 (by decide) tb_1031 rfl dX11_nearest_9 ?_
  refine lv_icmp_ge (tgt := 79) hx hb dX11_nearest_12 (by decide) (fun hb_1 => ?_) (fun hb_1 => ?_)
  · have hf := zif_t hb_1 hf
    refine lv_iload_n hx hb dX11_nearest_79 rfl (lv_at hl 3 rfl) ?_
    cases hf
    exact zeri hx hb hr hk dX11_nearest_80
  · have hf := zif_f hb_1 hf
    refine lv_iload_n hx hb dX11_nearest_15 rfl (lv_at hl 1 rfl) ?_
    refine lv_iload hx hb dX11_nearest_16 (lv_at hl 4 rfl) ?_
    refine lv_ishr hx hb dX11_nearest_18 ?_
    refine lv_iconst (v := 1) hx hb dX11_nearest_19 (by decide) ?_
    refine lv_iand hx hb dX11_nearest_20 ?_
    refine lv_if_ne (tgt := 27) hx hb dX11_nearest_21 (by decide) (fun hb_2 => ?_) (fun hb_2 => ?_)
    · have hf := zif_f hb_2 hf
      refine lv_aload_n hx hb dX11_nearest_27 rfl (lv_at hl 0 rfl) ?_
      refine zget (v := .ref (a0 16)) hx hb hown hT hK hP inX11 rfl smX11 0 rfl 16 (by decide) tb_1018 rfl dX11_nearest_28 ?_
      refine lv_iload hx hb dX11_nearest_31 (lv_at hl 4 rfl) ?_
      obtain ⟨hi3, hf⟩ := zck_some hf
      refine va_iald hx hb hK.1 hP 1 0 rfl rfl hi3 dX11_nearest_33 ?_
      refine lv_iload_n hx hb dX11_nearest_34 rfl (lv_at hl 2 rfl) ?_
      refine lv_isub hx hb dX11_nearest_35 ?_
      obtain ⟨z4, hc5, hf⟩ := zbd_some hf
      refine zri (zS (As := [.int (((zA s0 16) (Int32.toNatClampNeg v4)) - v2)]) hx hb hml hown hT hl.1 (c_Mo_modulo (((zA s0 16) (Int32.toNatClampNeg v4)) - v2) hc5) zY_Mo_modulo tb_1326 (zpS hK hP [] rfl) rm_ok_Mo_nearest_Mo_modulo rfl rfl (Nat.le_of_ble_eq_true rfl) dX11_nearest_36 ⟨Nat.zero_le _, Nat.zero_le _⟩) ?_
      refine lv_istore (lv' := [(5, .int z4), (0, .ref o0), (1, .int v1), (2, .int v2), (3, .int v3), (4, .int v4)]) hx hb dX11_nearest_39 hl (by decide) rfl (fun ls hl => ?_)
      refine lv_iload hx hb dX11_nearest_41 (lv_at hl 0 rfl) ?_
      refine lv_bipush (v := 6) hx hb dX11_nearest_43 (by decide) ?_
      refine lv_icmp_le (tgt := 56) hx hb dX11_nearest_45 (by decide) (fun hb_6 => ?_) (fun hb_6 => ?_)
      · have hf := zif_t hb_6 hf
        refine lv_iload hx hb dX11_nearest_56 (lv_at hl 0 rfl) ?_
        exact k_Mo_nearest_b58 C0 s0 v1 v2 v3 v4 z4 hk6 hP hf _ (lv_sub hl [1, 2, 3, 4, 5] rfl)
      · have hf := zif_f hb_6 hf
        refine lv_bipush (v := 12) hx hb dX11_nearest_48 (by decide) ?_
        refine lv_iload hx hb dX11_nearest_50 (lv_at hl 0 rfl) ?_
        refine lv_isub hx hb dX11_nearest_52 ?_
        refine lv_goto (tgt := 58) hx hb dX11_nearest_53 (by decide) ?_
        exact k_Mo_nearest_b58 C0 s0 v1 v2 v3 v4 (12 - z4) hk6 hP hf _ (lv_sub hl [1, 2, 3, 4, 5] rfl)
    · have hf := zif_t hb_2 hf
      refine lv_goto (tgt := 73) hx hb dX11_nearest_24 (by decide) ?_
      exact k_Mo_nearest_b73 C0 s0 v1 v2 v3 v4 hk6 hP hf _ (lv_sub hl [0, 1, 2, 3, 4] rfl)
set_option maxHeartbeats 4000000 in
set_option maxRecDepth 100000 in
theorem k_Mo_nearest_h6 {p : Program} {l : Launch} {e : Env} {s : State} {m : MethodId} {args : Array Value} {below : List Frame} {meth : Method} {c : Code} {dC : Nat → ClassId} {dI : Nat → Nat → Nat} {cy : Nat → ClassId} {o0 : Nat} {a0 : Nat → Nat} {N : Nat} {y : Int32} (C0 : zCx p s m args meth c cX11_nearest 6 (some .int) RX11 (dC, dI) cy) (s0 : zSt) (v1 : Int32) (v2 : Int32) (hP : va_P (dC, dI) vwCl (wd_Mo_nearest cy o0 a0 (zI s0) (zL s0) (zA s0 16)) s.heap) : ∀ (n : Nat) (v3 : Int32) (v4 : Int32) (hf : Mo_nearest_h6 N s0 v1 v2 n v3 v4 = some y) (ls : Array Slot) (hl : lv_has ls 6 [(0, .ref o0), (1, .int v1), (2, .int v2), (3, .int v3), (4, .int v4)]), W p l e rm_Mo_nearest s m args below meth c s.heap [] 0 0 (MQ below (zSi y) args s 0 0 (fun _ => False)) (F0 m 6 ls []) := by
  intro n
  induction n with
  | zero => intro v3 v4 hf; cases hf
  | succ n ih =>
    intro v3 v4 hf ls hl
    have hf : Mo_nearest_b6 N (Mo_nearest_h6 N s0 v1 v2 n) s0 v1 v2 v3 v4 = some y := hf
    exact k_Mo_nearest_b6 C0 s0 v1 v2 v3 v4 (fun v3 v4 hf ls hl => ih v3 v4 hf ls hl) hP hf ls hl
set_option maxHeartbeats 4000000 in
set_option maxRecDepth 100000 in
theorem k_Mo_nearest_b0 {p : Program} {l : Launch} {e : Env} {s : State} {m : MethodId} {args : Array Value} {below : List Frame} {meth : Method} {c : Code} {dC : Nat → ClassId} {dI : Nat → Nat → Nat} {cy : Nat → ClassId} {o0 : Nat} {a0 : Nat → Nat} {N : Nat} {y : Int32} (C0 : zCx p s m args meth c cX11_nearest 6 (some .int) RX11 (dC, dI) cy) (s0 : zSt) (v1 : Int32) (v2 : Int32) (hP : va_P (dC, dI) vwCl (wd_Mo_nearest cy o0 a0 (zI s0) (zL s0) (zA s0 16)) s.heap) (hf : Mo_nearest_b0 N s0 v1 v2 = some y) (ls : Array Slot) (hl : lv_has ls 6 [(0, .ref o0), (1, .int v1), (2, .int v2)]) : W p l e rm_Mo_nearest s m args below meth c s.heap [] 0 0 (MQ below (zSi y) args s 0 0 (fun _ => False)) (F0 m 0 ls []) := by
  obtain ⟨hx, hb, hr, hml, hown, hT, hk, hK⟩ := id C0
  refine lv_bipush (v := 12) hx hb dX11_nearest_0 (by decide) ?_
  refine lv_istore_n (lv' := [(3, .int 12), (0, .ref o0), (1, .int v1), (2, .int v2)]) hx hb dX11_nearest_2 rfl hl (by decide) rfl (fun ls hl => ?_)
  refine lv_iconst (v := 0) hx hb dX11_nearest_3 (by decide) ?_
  refine lv_istore (lv' := [(4, .int 0), (3, .int 12), (0, .ref o0), (1, .int v1), (2, .int v2)]) hx hb dX11_nearest_4 hl (by decide) rfl (fun ls hl => ?_)
  exact k_Mo_nearest_h6 C0 s0 v1 v2  hP N 12 0 hf _ (lv_sub hl [2, 3, 4, 1, 0] rfl)
set_option maxHeartbeats 4000000 in
set_option maxRecDepth 100000 in
theorem c_Mo_nearest {l : Launch} {dC : Nat → ClassId} {dI : Nat → Nat → Nat} {cy : Nat → ClassId} {N : Nat} (o0 : Nat) (a0 : Nat → Nat) (s0 : zSt) (v1 : Int32) (v2 : Int32) {y : Int32} (hf : Mo_nearest N s0 v1 v2 = some y) : Met l yX11_nearest (.code yX11_nearest cX11_nearest 6 (some .int) :: zt) rm_Mo_nearest (va_Pc [.ref o0, .int v1, .int v2] (zRd (dC, dI) cy (wd_Mo_nearest cy o0 a0 (zI s0) (zL s0) (zA s0 16)))) (zSi y) 0 0 (fun _ => False) :=
  zentR (by decide +kernel) (Nat.le_of_ble_eq_true rfl) (fun p e s m below meth c C0 hP ls hl => k_Mo_nearest_b0 C0 s0 v1 v2 hP hf ls hl)
def wd_Mo_fresh (cy : Nat → ClassId) (o0 : Nat) (a0 : Nat → Nat) (g0 : Nat → Int32) (h0 : Nat → Int64) (x0_16 : Nat → Int32) (x0_17 : Nat → Int32) (x0_20 : Nat → Int32) (x0_21 : Nat → Int32) : va_W := [(o0, .inr (11, fs_Mo a0 g0 h0)), (a0 16, .inl (cy 0, 11, .inl x0_16)), (a0 17, .inl (cy 0, 11, .inl x0_17)), (a0 20, .inl (cy 0, 11, .inl x0_20)), (a0 21, .inl (cy 0, 9, .inl x0_21))]
def rm_Mo_fresh : Room := { frames := 3, cells := 0, slots := 0, locals := 85 }
theorem rm_ok_Mo_fresh_Mo_beastSet : rm_Mo_beastSet.cells = 0 ∧ rm_Mo_beastSet.slots = 0 ∧ rm_Mo_beastSet.frames + 1 ≤ rm_Mo_fresh.frames ∧ 8 + (3 + 11) + rm_Mo_beastSet.locals ≤ rm_Mo_fresh.locals := by decide
theorem rm_ok_Mo_fresh_Mo_isIn : rm_Mo_isIn.cells = 0 ∧ rm_Mo_isIn.slots = 0 ∧ rm_Mo_isIn.frames + 1 ≤ rm_Mo_fresh.frames ∧ 8 + (3 + 11) + rm_Mo_isIn.locals ≤ rm_Mo_fresh.locals := by decide
theorem rm_ok_Mo_fresh_Mo_isKnownNew : rm_Mo_isKnownNew.cells = 0 ∧ rm_Mo_isKnownNew.slots = 0 ∧ rm_Mo_isKnownNew.frames + 1 ≤ rm_Mo_fresh.frames ∧ 8 + (7 + 11) + rm_Mo_isKnownNew.locals ≤ rm_Mo_fresh.locals := by decide
theorem rm_ok_Mo_fresh_Mo_nearest : rm_Mo_nearest.cells = 0 ∧ rm_Mo_nearest.slots = 0 ∧ rm_Mo_nearest.frames + 1 ≤ rm_Mo_fresh.frames ∧ 8 + (6 + 11) + rm_Mo_nearest.locals ≤ rm_Mo_fresh.locals := by decide
set_option maxHeartbeats 4000000 in
set_option maxRecDepth 100000 in
theorem k_Mo_fresh_b126 {p : Program} {l : Launch} {e : Env} {s : State} {m : MethodId} {args : Array Value} {below : List Frame} {meth : Method} {c : Code} {dC : Nat → ClassId} {dI : Nat → Nat → Nat} {cy : Nat → ClassId} {o0 : Nat} {a0 : Nat → Nat} {N : Nat} {kh81 : Int32 → Int32 → Int32 → Option (Int32)} {y : Int32} (C0 : zCx p s m args meth c cX11_fresh 7 (some .int) RX11 (dC, dI) cy) (s0 : zSt) (v1 : Int32) (v3 : Int32) (v4 : Int32) (v5 : Int32) (v6 : Int32) (hk81 : ∀ (v4 : Int32) (v5 : Int32) (v6 : Int32) (_ : kh81 v4 v5 v6 = some y) (ls : Array Slot) (_ : lv_has ls 7 [(0, .ref o0), (1, .int v1), (3, .int v3), (4, .int v4), (5, .int v5), (6, .int v6)]), W p l e rm_Mo_fresh s m args below meth c s.heap [] 0 0 (MQ below (zSi y) args s 0 0 (fun _ => False)) (F0 m 81 ls [])) (hP : va_P (dC, dI) vwCl (wd_Mo_fresh cy o0 a0 (zI s0) (zL s0) (zA s0 16) (zA s0 17) (zA s0 20) (zA s0 21)) s.heap) (hf : Mo_fresh_b126 N kh81 s0 v1 v3 v4 v5 v6 = some y) (ls : Array Slot) (hl : lv_has ls 7 [(0, .ref o0), (1, .int v1), (3, .int v3), (4, .int v4), (5, .int v5), (6, .int v6)]) : W p l e rm_Mo_fresh s m args below meth c s.heap [] 0 0 (MQ below (zSi y) args s 0 0 (fun _ => False)) (F0 m 126 ls []) := by
  obtain ⟨hx, hb, hr, hml, hown, hT, hk, hK⟩ := id C0
  refine lv_iinc (v := v6 + 1) (lv' := [(6, .int (v6 + 1)), (0, .ref o0), (1, .int v1), (3, .int v3), (4, .int v4), (5, .int v5)]) hx hb dX11_fresh_126 hl (k := 5) rfl rfl (by decide) rfl (fun ls hl => ?_)
  refine lv_goto (tgt := 81) hx hb dX11_fresh_129 (by decide) ?_
  exact hk81 v4 v5 (v6 + 1) hf _ (lv_sub hl [1, 2, 3, 4, 5, 0] rfl)
set_option maxHeartbeats 4000000 in
set_option maxRecDepth 100000 in
theorem k_Mo_fresh_b81 {p : Program} {l : Launch} {e : Env} {s : State} {m : MethodId} {args : Array Value} {below : List Frame} {meth : Method} {c : Code} {dC : Nat → ClassId} {dI : Nat → Nat → Nat} {cy : Nat → ClassId} {o0 : Nat} {a0 : Nat → Nat} {N : Nat} {kh81 : Int32 → Int32 → Int32 → Option (Int32)} {y : Int32} (C0 : zCx p s m args meth c cX11_fresh 7 (some .int) RX11 (dC, dI) cy) (s0 : zSt) (v1 : Int32) (v3 : Int32) (v4 : Int32) (v5 : Int32) (v6 : Int32) (hk81 : ∀ (v4 : Int32) (v5 : Int32) (v6 : Int32) (_ : kh81 v4 v5 v6 = some y) (ls : Array Slot) (_ : lv_has ls 7 [(0, .ref o0), (1, .int v1), (3, .int v3), (4, .int v4), (5, .int v5), (6, .int v6)]), W p l e rm_Mo_fresh s m args below meth c s.heap [] 0 0 (MQ below (zSi y) args s 0 0 (fun _ => False)) (F0 m 81 ls [])) (hP : va_P (dC, dI) vwCl (wd_Mo_fresh cy o0 a0 (zI s0) (zL s0) (zA s0 16) (zA s0 17) (zA s0 20) (zA s0 21)) s.heap) (hf : Mo_fresh_b81 N kh81 s0 v1 v3 v4 v5 v6 = some y) (ls : Array Slot) (hl : lv_has ls 7 [(0, .ref o0), (1, .int v1), (3, .int v3), (4, .int v4), (5, .int v5), (6, .int v6)]) : W p l e rm_Mo_fresh s m args below meth c s.heap [] 0 0 (MQ below (zSi y) args s 0 0 (fun _ => False)) (F0 m 81 ls []) := by
  obtain ⟨hx, hb, hr, hml, hown, hT, hk, hK⟩ := id C0
  refine lv_iload hx hb dX11_fresh_81 (lv_at hl 5 rfl) ?_
  refine lv_bipush (v := 12) hx hb dX11_fresh_83 (by decide) ?_
  refine lv_icmp_ge (tgt := 132) hx hb dX11_fresh_85 (by decide) (fun hb_1 => ?_) (fun hb_1 => ?_)
  · have hf := zif_t hb_1 hf
    refine lv_iload hx hb dX11_fresh_132 (lv_at hl 3 rfl) ?_
    cases hf
    exact zeri hx hb hr hk dX11_fresh_134
  · have hf := zif_f hb_1 hf
    refine lv_aload_n hx hb dX11_fresh_88 rfl (lv_at hl 0 rfl) ?_
    refine lv_iload_n hx hb dX11_fresh_89 rfl (lv_at hl 1 rfl) ?_
    refine lv_iload hx hb dX11_fresh_90 (lv_at hl 5 rfl) ?_
    obtain ⟨z2, hc3, hf⟩ := zbd_some hf
    refine zri (zV (As := [.int v1, .int v6]) hx hb hml hown hT hl.1 (c_Mo_isKnownNew o0 a0 s0 v1 v6 hc3) zY_Mo_isKnownNew tb_1521 (zpR hK hP [0, 1, 2, 4] rfl 0 11 rfl rfl rfl) rm_ok_Mo_fresh_Mo_isKnownNew rfl rfl (Nat.le_of_ble_eq_true rfl) dX11_fresh_92 ⟨Nat.zero_le _, Nat.zero_le _⟩) ?_
    refine lv_if_eq (tgt := 126) hx hb dX11_fresh_95 (by decide) (fun hb_4 => ?_) (fun hb_4 => ?_)
    · have hf := zif_t hb_4 hf
      exact k_Mo_fresh_b126 C0 s0 v1 v3 v4 v5 v6 hk81 hP hf _ (lv_sub hl [0, 1, 2, 3, 4, 5] rfl)
    · have hf := zif_f hb_4 hf
      refine lv_aload_n hx hb dX11_fresh_98 rfl (lv_at hl 0 rfl) ?_
      refine lv_iload_n hx hb dX11_fresh_99 rfl (lv_at hl 2 rfl) ?_
      refine lv_iload hx hb dX11_fresh_100 (lv_at hl 5 rfl) ?_
      obtain ⟨z5, hc6, hf⟩ := zbd_some hf
      refine zri (zV (As := [.int v3, .int v6]) hx hb hml hown hT hl.1 (c_Mo_nearest o0 a0 s0 v3 v6 hc6) zY_Mo_nearest tb_1525 (zpR hK hP [0, 1] rfl 0 11 rfl rfl rfl) rm_ok_Mo_fresh_Mo_nearest rfl rfl (Nat.le_of_ble_eq_true rfl) dX11_fresh_102 ⟨Nat.zero_le _, Nat.zero_le _⟩) ?_
      refine lv_iload hx hb dX11_fresh_105 (lv_at hl 4 rfl) ?_
      refine lv_icmp_gt (tgt := 113) hx hb dX11_fresh_107 (by decide) (fun hb_7 => ?_) (fun hb_7 => ?_)
      · have hf := zif_t hb_7 hf
        refine lv_iload hx hb dX11_fresh_113 (lv_at hl 5 rfl) ?_
        refine lv_istore (lv' := [(4, .int v6), (0, .ref o0), (1, .int v1), (3, .int v3), (5, .int v5), (6, .int v6)]) hx hb dX11_fresh_115 hl (by decide) rfl (fun ls hl => ?_)
        refine lv_aload_n hx hb dX11_fresh_117 rfl (lv_at hl 1 rfl) ?_
        refine lv_iload_n hx hb dX11_fresh_118 rfl (lv_at hl 3 rfl) ?_
        refine lv_iload hx hb dX11_fresh_119 (lv_at hl 5 rfl) ?_
        obtain ⟨z8, hc9, hf⟩ := zbd_some hf
        refine zri (zV (As := [.int v3, .int v6]) hx hb hml hown hT hl.1 (c_Mo_nearest o0 a0 s0 v3 v6 hc9) zY_Mo_nearest tb_1525 (zpR hK hP [0, 1] rfl 0 11 rfl rfl rfl) rm_ok_Mo_fresh_Mo_nearest rfl rfl (Nat.le_of_ble_eq_true rfl) dX11_fresh_121 ⟨Nat.zero_le _, Nat.zero_le _⟩) ?_
        refine lv_istore (lv' := [(5, .int z8), (4, .int v6), (0, .ref o0), (1, .int v1), (3, .int v3), (6, .int v6)]) hx hb dX11_fresh_124 hl (by decide) rfl (fun ls hl => ?_)
        exact k_Mo_fresh_b126 C0 s0 v1 v3 v6 z8 v6 hk81 hP hf _ (lv_sub hl [2, 3, 4, 1, 0, 5] rfl)
      · have hf := zif_f hb_7 hf
        refine lv_goto (tgt := 126) hx hb dX11_fresh_110 (by decide) ?_
        exact k_Mo_fresh_b126 C0 s0 v1 v3 v4 v5 v6 hk81 hP hf _ (lv_sub hl [0, 1, 2, 3, 4, 5] rfl)
set_option maxHeartbeats 4000000 in
set_option maxRecDepth 100000 in
theorem k_Mo_fresh_h81 {p : Program} {l : Launch} {e : Env} {s : State} {m : MethodId} {args : Array Value} {below : List Frame} {meth : Method} {c : Code} {dC : Nat → ClassId} {dI : Nat → Nat → Nat} {cy : Nat → ClassId} {o0 : Nat} {a0 : Nat → Nat} {N : Nat} {y : Int32} (C0 : zCx p s m args meth c cX11_fresh 7 (some .int) RX11 (dC, dI) cy) (s0 : zSt) (v1 : Int32) (v3 : Int32) (hP : va_P (dC, dI) vwCl (wd_Mo_fresh cy o0 a0 (zI s0) (zL s0) (zA s0 16) (zA s0 17) (zA s0 20) (zA s0 21)) s.heap) : ∀ (n : Nat) (v4 : Int32) (v5 : Int32) (v6 : Int32) (hf : Mo_fresh_h81 N s0 v1 v3 n v4 v5 v6 = some y) (ls : Array Slot) (hl : lv_has ls 7 [(0, .ref o0), (1, .int v1), (3, .int v3), (4, .int v4), (5, .int v5), (6, .int v6)]), W p l e rm_Mo_fresh s m args below meth c s.heap [] 0 0 (MQ below (zSi y) args s 0 0 (fun _ => False)) (F0 m 81 ls []) := by
  intro n
  induction n with
  | zero => intro v4 v5 v6 hf; cases hf
  | succ n ih =>
    intro v4 v5 v6 hf ls hl
    have hf : Mo_fresh_b81 N (Mo_fresh_h81 N s0 v1 v3 n) s0 v1 v3 v4 v5 v6 = some y := hf
    exact k_Mo_fresh_b81 C0 s0 v1 v3 v4 v5 v6 (fun v4 v5 v6 hf ls hl => ih v4 v5 v6 hf ls hl) hP hf ls hl
set_option maxHeartbeats 4000000 in
set_option maxRecDepth 100000 in
theorem k_Mo_fresh_b64 {p : Program} {l : Launch} {e : Env} {s : State} {m : MethodId} {args : Array Value} {below : List Frame} {meth : Method} {c : Code} {dC : Nat → ClassId} {dI : Nat → Nat → Nat} {cy : Nat → ClassId} {o0 : Nat} {a0 : Nat → Nat} {N : Nat} {kh33 : Int32 → Int32 → Option (Int32)} {y : Int32} (C0 : zCx p s m args meth c cX11_fresh 7 (some .int) RX11 (dC, dI) cy) (s0 : zSt) (v1 : Int32) (v2 : Int32) (v4 : Int32) (t0 : Int32) (t1 : Int32) (hk33 : ∀ (v3 : Int32) (v4 : Int32) (_ : kh33 v3 v4 = some y) (ls : Array Slot) (_ : lv_has ls 7 [(0, .ref o0), (1, .int v1), (2, .int v2), (3, .int v3), (4, .int v4)]), W p l e rm_Mo_fresh s m args below meth c s.heap [] 0 0 (MQ below (zSi y) args s 0 0 (fun _ => False)) (F0 m 33 ls [])) (hP : va_P (dC, dI) vwCl (wd_Mo_fresh cy o0 a0 (zI s0) (zL s0) (zA s0 16) (zA s0 17) (zA s0 20) (zA s0 21)) s.heap) (hf : Mo_fresh_b64 N kh33 s0 v1 v2 v4 t0 t1 = some y) (ls : Array Slot) (hl : lv_has ls 7 [(0, .ref o0), (1, .int v1), (2, .int v2), (4, .int v4)]) : W p l e rm_Mo_fresh s m args below meth c s.heap [] 0 0 (MQ below (zSi y) args s 0 0 (fun _ => False)) (F0 m 64 ls [.int t1, .int t0]) := by
  obtain ⟨hx, hb, hr, hml, hown, hT, hk, hK⟩ := id C0
  refine lv_ior hx hb dX11_fresh_64 ?_
  refine lv_istore_n (lv' := [(3, .int (t0 ||| t1)), (0, .ref o0), (1, .int v1), (2, .int v2), (4, .int v4)]) hx hb dX11_fresh_65 rfl hl (by decide) rfl (fun ls hl => ?_)
  refine lv_iinc (v := v4 + 1) (lv' := [(4, .int (v4 + 1)), (3, .int (t0 ||| t1)), (0, .ref o0), (1, .int v1), (2, .int v2)]) hx hb dX11_fresh_66 hl (k := 4) rfl rfl (by decide) rfl (fun ls hl => ?_)
  refine lv_goto (tgt := 33) hx hb dX11_fresh_69 (by decide) ?_
  exact hk33 (t0 ||| t1) (v4 + 1) hf _ (lv_sub hl [2, 3, 4, 1, 0] rfl)
set_option maxHeartbeats 4000000 in
set_option maxRecDepth 100000 in
theorem k_Mo_fresh_b33 {p : Program} {l : Launch} {e : Env} {s : State} {m : MethodId} {args : Array Value} {below : List Frame} {meth : Method} {c : Code} {dC : Nat → ClassId} {dI : Nat → Nat → Nat} {cy : Nat → ClassId} {o0 : Nat} {a0 : Nat → Nat} {N : Nat} {kh33 : Int32 → Int32 → Option (Int32)} {y : Int32} (C0 : zCx p s m args meth c cX11_fresh 7 (some .int) RX11 (dC, dI) cy) (s0 : zSt) (v1 : Int32) (v2 : Int32) (v3 : Int32) (v4 : Int32) (hk33 : ∀ (v3 : Int32) (v4 : Int32) (_ : kh33 v3 v4 = some y) (ls : Array Slot) (_ : lv_has ls 7 [(0, .ref o0), (1, .int v1), (2, .int v2), (3, .int v3), (4, .int v4)]), W p l e rm_Mo_fresh s m args below meth c s.heap [] 0 0 (MQ below (zSi y) args s 0 0 (fun _ => False)) (F0 m 33 ls [])) (hP : va_P (dC, dI) vwCl (wd_Mo_fresh cy o0 a0 (zI s0) (zL s0) (zA s0 16) (zA s0 17) (zA s0 20) (zA s0 21)) s.heap) (hf : Mo_fresh_b33 N kh33 s0 v1 v2 v3 v4 = some y) (ls : Array Slot) (hl : lv_has ls 7 [(0, .ref o0), (1, .int v1), (2, .int v2), (3, .int v3), (4, .int v4)]) : W p l e rm_Mo_fresh s m args below meth c s.heap [] 0 0 (MQ below (zSi y) args s 0 0 (fun _ => False)) (F0 m 33 ls []) := by
  obtain ⟨hx, hb, hr, hml, hown, hT, hk, hK⟩ := id C0
  refine lv_iload hx hb dX11_fresh_33 (lv_at hl 4 rfl) ?_
  refine lv_aload_n hx hb dX11_fresh_35 rfl (lv_at hl 0 rfl) ?_
  refine zget (v := .int (zI s0 29)) hx hb hown hT hK hP inX11 rfl smX11 0 rfl 29 (by decide) tb_1031 rfl dX11_fresh_36 ?_
  refine lv_icmp_ge (tgt := 72) hx hb dX11_fresh_39 (by decide) (fun hb_1 => ?_) (fun hb_1 => ?_)
  · have hf := zif_t hb_1 hf
    refine lv_iconst (v := (-1)) hx hb dX11_fresh_72 (by decide) ?_
    refine lv_istore (lv' := [(4, .int (-1)), (0, .ref o0), (1, .int v1), (2, .int v2), (3, .int v3)]) hx hb dX11_fresh_73 hl (by decide) rfl (fun ls hl => ?_)
    refine lv_iconst (v := (-1)) hx hb dX11_fresh_75 (by decide) ?_
    refine lv_istore (lv' := [(5, .int (-1)), (4, .int (-1)), (0, .ref o0), (1, .int v1), (2, .int v2), (3, .int v3)]) hx hb dX11_fresh_76 hl (by decide) rfl (fun ls hl => ?_)
    refine lv_iconst (v := 0) hx hb dX11_fresh_78 (by decide) ?_
    refine lv_istore (lv' := [(6, .int 0), (5, .int (-1)), (4, .int (-1)), (0, .ref o0), (1, .int v1), (2, .int v2), (3, .int v3)]) hx hb dX11_fresh_79 hl (by decide) rfl (fun ls hl => ?_)
    exact k_Mo_fresh_h81 C0 s0 v1 v3  hP N (-1) (-1) 0 hf _ (lv_sub hl [3, 4, 6, 2, 1, 0] rfl)
  · have hf := zif_f hb_1 hf
    refine lv_iload_n hx hb dX11_fresh_42 rfl (lv_at hl 3 rfl) ?_
    refine lv_iload_n hx hb dX11_fresh_43 rfl (lv_at hl 2 rfl) ?_
    refine lv_iload hx hb dX11_fresh_44 (lv_at hl 4 rfl) ?_
    refine lv_ishr hx hb dX11_fresh_46 ?_
    refine lv_iconst (v := 1) hx hb dX11_fresh_47 (by decide) ?_
    refine lv_iand hx hb dX11_fresh_48 ?_
    refine lv_iconst (v := 1) hx hb dX11_fresh_49 (by decide) ?_
    refine lv_icmp_ne (tgt := 63) hx hb dX11_fresh_50 (by decide) (fun hb_2 => ?_) (fun hb_2 => ?_)
    · have hf := zif_f hb_2 hf
      refine lv_iconst (v := 0) hx hb dX11_fresh_63 (by decide) ?_
      exact k_Mo_fresh_b64 C0 s0 v1 v2 v4 v3 0 hk33 hP hf _ (lv_sub hl [0, 1, 2, 4] rfl)
    · have hf := zif_t hb_2 hf
      refine lv_aload_n hx hb dX11_fresh_53 rfl (lv_at hl 0 rfl) ?_
      refine zget (v := .ref (a0 20)) hx hb hown hT hK hP inX11 rfl smX11 0 rfl 20 (by decide) tb_1022 rfl dX11_fresh_54 ?_
      refine lv_iload hx hb dX11_fresh_57 (lv_at hl 4 rfl) ?_
      obtain ⟨hi3, hf⟩ := zck_some hf
      refine va_iald hx hb hK.1 hP 3 0 rfl rfl hi3 dX11_fresh_59 ?_
      refine lv_goto (tgt := 64) hx hb dX11_fresh_60 (by decide) ?_
      exact k_Mo_fresh_b64 C0 s0 v1 v2 v4 v3 ((zA s0 20) (Int32.toNatClampNeg v4)) hk33 hP hf _ (lv_sub hl [0, 1, 2, 4] rfl)
set_option maxHeartbeats 4000000 in
set_option maxRecDepth 100000 in
theorem k_Mo_fresh_h33 {p : Program} {l : Launch} {e : Env} {s : State} {m : MethodId} {args : Array Value} {below : List Frame} {meth : Method} {c : Code} {dC : Nat → ClassId} {dI : Nat → Nat → Nat} {cy : Nat → ClassId} {o0 : Nat} {a0 : Nat → Nat} {N : Nat} {y : Int32} (C0 : zCx p s m args meth c cX11_fresh 7 (some .int) RX11 (dC, dI) cy) (s0 : zSt) (v1 : Int32) (v2 : Int32) (hP : va_P (dC, dI) vwCl (wd_Mo_fresh cy o0 a0 (zI s0) (zL s0) (zA s0 16) (zA s0 17) (zA s0 20) (zA s0 21)) s.heap) : ∀ (n : Nat) (v3 : Int32) (v4 : Int32) (hf : Mo_fresh_h33 N s0 v1 v2 n v3 v4 = some y) (ls : Array Slot) (hl : lv_has ls 7 [(0, .ref o0), (1, .int v1), (2, .int v2), (3, .int v3), (4, .int v4)]), W p l e rm_Mo_fresh s m args below meth c s.heap [] 0 0 (MQ below (zSi y) args s 0 0 (fun _ => False)) (F0 m 33 ls []) := by
  intro n
  induction n with
  | zero => intro v3 v4 hf; cases hf
  | succ n ih =>
    intro v3 v4 hf ls hl
    have hf : Mo_fresh_b33 N (Mo_fresh_h33 N s0 v1 v2 n) s0 v1 v2 v3 v4 = some y := hf
    exact k_Mo_fresh_b33 C0 s0 v1 v2 v3 v4 (fun v3 v4 hf ls hl => ih v3 v4 hf ls hl) hP hf ls hl
set_option maxHeartbeats 4000000 in
set_option maxRecDepth 100000 in
theorem k_Mo_fresh_b0 {p : Program} {l : Launch} {e : Env} {s : State} {m : MethodId} {args : Array Value} {below : List Frame} {meth : Method} {c : Code} {dC : Nat → ClassId} {dI : Nat → Nat → Nat} {cy : Nat → ClassId} {o0 : Nat} {a0 : Nat → Nat} {N : Nat} {y : Int32} (C0 : zCx p s m args meth c cX11_fresh 7 (some .int) RX11 (dC, dI) cy) (s0 : zSt) (v1 : Int32) (v2 : Int32) (hP : va_P (dC, dI) vwCl (wd_Mo_fresh cy o0 a0 (zI s0) (zL s0) (zA s0 16) (zA s0 17) (zA s0 20) (zA s0 21)) s.heap) (hf : Mo_fresh_b0 N s0 v1 v2 = some y) (ls : Array Slot) (hl : lv_has ls 7 [(0, .ref o0), (1, .int v1), (2, .int v2)]) : W p l e rm_Mo_fresh s m args below meth c s.heap [] 0 0 (MQ below (zSi y) args s 0 0 (fun _ => False)) (F0 m 0 ls []) := by
  obtain ⟨hx, hb, hr, hml, hown, hT, hk, hK⟩ := id C0
  refine lv_iload_n hx hb dX11_fresh_0 rfl (lv_at hl 1 rfl) ?_
  refine lv_iconst (v := 1) hx hb dX11_fresh_1 (by decide) ?_
  refine lv_bipush (v := 99) hx hb dX11_fresh_2 (by decide) ?_
  obtain ⟨z1, hc2, hf⟩ := zbd_some hf
  refine zri (zS (As := [.int v1, .int 1, .int 99]) hx hb hml hown hT hl.1 (c_Mo_isIn v1 1 99 hc2) zY_Mo_isIn tb_1319 (zpS hK hP [] rfl) rm_ok_Mo_fresh_Mo_isIn rfl rfl (Nat.le_of_ble_eq_true rfl) dX11_fresh_4 ⟨Nat.zero_le _, Nat.zero_le _⟩) ?_
  refine lv_if_eq (tgt := 25) hx hb dX11_fresh_7 (by decide) (fun hb_3 => ?_) (fun hb_3 => ?_)
  · have hf := zif_t hb_3 hf
    refine lv_bipush (v := (-2)) hx hb dX11_fresh_25 (by decide) ?_
    cases hf
    exact zeri hx hb hr hk dX11_fresh_27
  · have hf := zif_f hb_3 hf
    refine lv_iload_n hx hb dX11_fresh_10 rfl (lv_at hl 2 rfl) ?_
    refine lv_if_lt (tgt := 25) hx hb dX11_fresh_11 (by decide) (fun hb_4 => ?_) (fun hb_4 => ?_)
    · have hf := zif_t hb_4 hf
      refine lv_bipush (v := (-2)) hx hb dX11_fresh_25 (by decide) ?_
      cases hf
      exact zeri hx hb hr hk dX11_fresh_27
    · have hf := zif_f hb_4 hf
      refine lv_iload_n hx hb dX11_fresh_14 rfl (lv_at hl 2 rfl) ?_
      refine lv_aload_n hx hb dX11_fresh_15 rfl (lv_at hl 0 rfl) ?_
      obtain ⟨z5, hc6, hf⟩ := zbd_some hf
      refine zri (zV (As := []) hx hb hml hown hT hl.1 (c_Mo_beastSet o0 a0 s0 hc6) zY_Mo_beastSet tb_1303 (zpR hK hP [0, 4] rfl 0 11 rfl rfl rfl) rm_ok_Mo_fresh_Mo_beastSet rfl rfl (Nat.le_of_ble_eq_true rfl) dX11_fresh_16 ⟨Nat.zero_le _, Nat.zero_le _⟩) ?_
      refine lv_iconst (v := (-1)) hx hb dX11_fresh_19 (by decide) ?_
      refine lv_ixor hx hb dX11_fresh_20 ?_
      refine lv_iand hx hb dX11_fresh_21 ?_
      refine lv_if_eq (tgt := 28) hx hb dX11_fresh_22 (by decide) (fun hb_7 => ?_) (fun hb_7 => ?_)
      · have hf := zif_t hb_7 hf
        refine lv_iload_n hx hb dX11_fresh_28 rfl (lv_at hl 2 rfl) ?_
        refine lv_istore_n (lv' := [(3, .int v2), (0, .ref o0), (1, .int v1), (2, .int v2)]) hx hb dX11_fresh_29 rfl hl (by decide) rfl (fun ls hl => ?_)
        refine lv_iconst (v := 0) hx hb dX11_fresh_30 (by decide) ?_
        refine lv_istore (lv' := [(4, .int 0), (3, .int v2), (0, .ref o0), (1, .int v1), (2, .int v2)]) hx hb dX11_fresh_31 hl (by decide) rfl (fun ls hl => ?_)
        exact k_Mo_fresh_h33 C0 s0 v1 v2  hP N v2 0 hf _ (lv_sub hl [2, 3, 4, 1, 0] rfl)
      · have hf := zif_f hb_7 hf
        refine lv_bipush (v := (-2)) hx hb dX11_fresh_25 (by decide) ?_
        cases hf
        exact zeri hx hb hr hk dX11_fresh_27
set_option maxHeartbeats 4000000 in
set_option maxRecDepth 100000 in
theorem c_Mo_fresh {l : Launch} {dC : Nat → ClassId} {dI : Nat → Nat → Nat} {cy : Nat → ClassId} {N : Nat} (o0 : Nat) (a0 : Nat → Nat) (s0 : zSt) (v1 : Int32) (v2 : Int32) {y : Int32} (hf : Mo_fresh N s0 v1 v2 = some y) : Met l yX11_fresh (.code yX11_fresh cX11_fresh 7 (some .int) :: zt) rm_Mo_fresh (va_Pc [.ref o0, .int v1, .int v2] (zRd (dC, dI) cy (wd_Mo_fresh cy o0 a0 (zI s0) (zL s0) (zA s0 16) (zA s0 17) (zA s0 20) (zA s0 21)))) (zSi y) 0 0 (fun _ => False) :=
  zentR (by decide +kernel) (Nat.le_of_ble_eq_true rfl) (fun p e s m below meth c C0 hP ls hl => k_Mo_fresh_b0 C0 s0 v1 v2 hP hf ls hl)
def wd_Mo_isBox (cy : Nat → ClassId) : va_W := []
def rm_Mo_isBox : Room := { frames := 1, cells := 0, slots := 0, locals := 40 }
set_option maxHeartbeats 4000000 in
set_option maxRecDepth 100000 in
theorem k_Mo_isBox_b0 {p : Program} {l : Launch} {e : Env} {s : State} {m : MethodId} {args : Array Value} {below : List Frame} {meth : Method} {c : Code} {dC : Nat → ClassId} {dI : Nat → Nat → Nat} {cy : Nat → ClassId} {N : Nat} {y : Int32} (C0 : zCx p s m args meth c cX11_isBox 1 (some .boolean) RX11 (dC, dI) cy) (v0 : Int32) (hP : va_P (dC, dI) vwCl (wd_Mo_isBox cy) s.heap) (hf : Mo_isBox_b0 N v0 = some y) (ls : Array Slot) (hl : lv_has ls 1 [(0, .int v0)]) : W p l e rm_Mo_isBox s m args below meth c s.heap [] 0 0 (MQ below (zSi y) args s 0 0 (fun _ => False)) (F0 m 0 ls []) := by
  obtain ⟨hx, hb, hr, hml, hown, hT, hk, hK⟩ := id C0
  refine lv_iload_n hx hb dX11_isBox_0 rfl (lv_at hl 0 rfl) ?_
  refine lv_if_lt (tgt := 13) hx hb dX11_isBox_1 (by decide) (fun hb_1 => ?_) (fun hb_1 => ?_)
  · have hf := zif_t hb_1 hf
    refine lv_iconst (v := 0) hx hb dX11_isBox_13 (by decide) ?_
    cases hf
    exact zerz hx hb hr hk (Or.inl rfl) dX11_isBox_14
  · have hf := zif_f hb_1 hf
    refine lv_iload_n hx hb dX11_isBox_4 rfl (lv_at hl 0 rfl) ?_
    refine lv_iconst (v := 3) hx hb dX11_isBox_5 (by decide) ?_
    refine lv_icmp_ge (tgt := 13) hx hb dX11_isBox_6 (by decide) (fun hb_2 => ?_) (fun hb_2 => ?_)
    · have hf := zif_t hb_2 hf
      refine lv_iconst (v := 0) hx hb dX11_isBox_13 (by decide) ?_
      cases hf
      exact zerz hx hb hr hk (Or.inl rfl) dX11_isBox_14
    · have hf := zif_f hb_2 hf
      refine lv_iconst (v := 1) hx hb dX11_isBox_9 (by decide) ?_
      refine lv_goto (tgt := 14) hx hb dX11_isBox_10 (by decide) ?_
      cases hf
      exact zerz hx hb hr hk (Or.inr rfl) dX11_isBox_14
set_option maxHeartbeats 4000000 in
set_option maxRecDepth 100000 in
theorem c_Mo_isBox {l : Launch} {dC : Nat → ClassId} {dI : Nat → Nat → Nat} {cy : Nat → ClassId} {N : Nat} (v0 : Int32) {y : Int32} (hf : Mo_isBox N v0 = some y) : Met l yX11_isBox (.code yX11_isBox cX11_isBox 1 (some .boolean) :: zt) rm_Mo_isBox (va_Pc [.int v0] (zRd (dC, dI) cy (wd_Mo_isBox cy))) (zSi y) 0 0 (fun _ => False) :=
  zentR (by decide +kernel) (Nat.le_of_ble_eq_true rfl) (fun p e s m below meth c C0 hP ls hl => k_Mo_isBox_b0 C0 v0 hP hf ls hl)
def wd_Mo_image (cy : Nat → ClassId) (o0 : Nat) (a0 : Nat → Nat) (g0 : Nat → Int32) (h0 : Nat → Int64) (x0_33 : Nat → Int32) (x0_62 : Nat → Int32) (x0_63 : Nat → Int32) : va_W := [(o0, .inr (11, fs_Mo a0 g0 h0)), (a0 33, .inl (cy 0, 11, .inl x0_33)), (a0 62, .inl (cy 3, 3, .inl x0_62)), (a0 63, .inl (cy 0, 48, .inl x0_63))]
def rm_Mo_image : Room := { frames := 2, cells := 0, slots := 0, locals := 60 }
theorem rm_ok_Mo_image_Mo_isBox : rm_Mo_isBox.cells = 0 ∧ rm_Mo_isBox.slots = 0 ∧ rm_Mo_isBox.frames + 1 ≤ rm_Mo_image.frames ∧ 8 + (1 + 11) + rm_Mo_isBox.locals ≤ rm_Mo_image.locals := by decide
set_option maxHeartbeats 4000000 in
set_option maxRecDepth 100000 in
theorem k_Mo_image_b91 {p : Program} {l : Launch} {e : Env} {s : State} {m : MethodId} {args : Array Value} {below : List Frame} {meth : Method} {c : Code} {dC : Nat → ClassId} {dI : Nat → Nat → Nat} {cy : Nat → ClassId} {A : Nat → Prop} {o0 : Nat} {a0 : Nat → Nat} {N : Nat} {kh91 : zSt → Int32 → Option (Int32 × zSt)} {y : Int32 × zSt} (C0 : zCx p s m args meth c cX11_image 3 (some .int) RX11 (dC, dI) cy) (s0 : zSt) (v1 : Int32) (v2 : Int32) (hk91 : ∀ (s0 : zSt) (v2 : Int32) {H : Heap} {locs : List Loc} (_ : va_P (dC, dI) vwCl (wd_Mo_image cy o0 a0 (zI s0) (zL s0) (zA s0 33) (zA s0 62) (zA s0 63)) H) (_ : va_D A (wd_Mo_image cy o0 a0 (zI s0) (zL s0) (zA s0 33) (zA s0 62) (zA s0 63))) (_ : va_S A s.heap H locs) (_ : kh91 s0 v2 = some y) (ls : Array Slot) (_ : lv_has ls 3 [(0, .ref o0), (1, .int v1), (2, .int v2)]), W p l e rm_Mo_image s m args below meth c H locs 0 0 (MQ below (zQi y.1 (dC, dI) cy (wd_Mo_image cy o0 a0 (zI y.2) (zL y.2) (zA y.2 33) (zA y.2 62) (zA y.2 63)) A) args s 0 0 A) (F0 m 91 ls [])) (hA : ∀ q, s.heap.size ≤ q → A q) {H : Heap} {locs : List Loc} (hP : va_P (dC, dI) vwCl (wd_Mo_image cy o0 a0 (zI s0) (zL s0) (zA s0 33) (zA s0 62) (zA s0 63)) H) (hD : va_D A (wd_Mo_image cy o0 a0 (zI s0) (zL s0) (zA s0 33) (zA s0 62) (zA s0 63))) (hS : va_S A s.heap H locs) (hf : Mo_image_b91 N kh91 s0 v1 v2 = some y) (ls : Array Slot) (hl : lv_has ls 3 [(0, .ref o0), (1, .int v1), (2, .int v2)]) : W p l e rm_Mo_image s m args below meth c H locs 0 0 (MQ below (zQi y.1 (dC, dI) cy (wd_Mo_image cy o0 a0 (zI y.2) (zL y.2) (zA y.2 33) (zA y.2 62) (zA y.2 63)) A) args s 0 0 A) (F0 m 91 ls []) := by
  obtain ⟨hx, hb, hr, hml, hown, hT, hk, hK⟩ := id C0
  refine lv_iload_n hx hb dX11_image_91 rfl (lv_at hl 2 rfl) ?_
  refine lv_bipush (v := 11) hx hb dX11_image_92 (by decide) ?_
  refine lv_icmp_ge (tgt := 122) hx hb dX11_image_94 (by decide) (fun hb_1 => ?_) (fun hb_1 => ?_)
  · have hf := zif_t hb_1 hf
    refine lv_aload_n hx hb dX11_image_122 rfl (lv_at hl 0 rfl) ?_
    refine zget (v := .int (zI s0 38)) hx hb hown hT hK hP inX11 rfl smX11 0 rfl 38 (by decide) tb_1040 rfl dX11_image_123 ?_
    cases hf
    exact zewi hx hb hr hk hK hP hD hS dX11_image_126
  · have hf := zif_f hb_1 hf
    refine lv_aload_n hx hb dX11_image_97 rfl (lv_at hl 0 rfl) ?_
    refine zget (v := .ref (a0 63)) hx hb hown hT hK hP inX11 rfl smX11 0 rfl 63 (by decide) tb_1065 rfl dX11_image_98 ?_
    refine lv_bipush (v := 16) hx hb dX11_image_101 (by decide) ?_
    refine lv_iload_n hx hb dX11_image_103 rfl (lv_at hl 1 rfl) ?_
    refine lv_imul hx hb dX11_image_104 ?_
    refine lv_iconst (v := 5) hx hb dX11_image_105 (by decide) ?_
    refine lv_iadd hx hb dX11_image_106 ?_
    refine lv_iload_n hx hb dX11_image_107 rfl (lv_at hl 2 rfl) ?_
    refine lv_iadd hx hb dX11_image_108 ?_
    refine lv_aload_n hx hb dX11_image_109 rfl (lv_at hl 0 rfl) ?_
    refine zget (v := .ref (a0 33)) hx hb hown hT hK hP inX11 rfl smX11 0 rfl 33 (by decide) tb_1035 rfl dX11_image_110 ?_
    refine lv_iload_n hx hb dX11_image_113 rfl (lv_at hl 2 rfl) ?_
    obtain ⟨hi2, hf⟩ := zck_some hf
    refine va_iald hx hb hK.1 hP 1 0 rfl rfl hi2 dX11_image_114 ?_
    obtain ⟨hi3, hf⟩ := zck_some hf
    refine zast (ws' := (wd_Mo_image cy o0 a0 (zI s0) (zL s0) (zA s0 33) (zA s0 62) (upd (zA s0 63) (Int32.toNatClampNeg (((16 * v1) + 5) + v2)) ((zA s0 33) (Int32.toNatClampNeg v2))))) hx hb hK hP hD hS 3 0 rfl rfl hi3 rfl dX11_image_115 (fun H locs hP hD hS => ?_)
    refine lv_iinc (v := v2 + 1) (lv' := [(2, .int (v2 + 1)), (0, .ref o0), (1, .int v1)]) hx hb dX11_image_116 hl (k := 2) rfl rfl (by decide) rfl (fun ls hl => ?_)
    refine lv_goto (tgt := 91) hx hb dX11_image_119 (by decide) ?_
    exact hk91 (zsA s0 63 (upd (zA s0 63) (Int32.toNatClampNeg (((16 * v1) + 5) + v2)) ((zA s0 33) (Int32.toNatClampNeg v2)))) (v2 + 1) hP hD hS hf _ (lv_sub hl [1, 2, 0] rfl)
set_option maxHeartbeats 4000000 in
set_option maxRecDepth 100000 in
theorem k_Mo_image_h91 {p : Program} {l : Launch} {e : Env} {s : State} {m : MethodId} {args : Array Value} {below : List Frame} {meth : Method} {c : Code} {dC : Nat → ClassId} {dI : Nat → Nat → Nat} {cy : Nat → ClassId} {A : Nat → Prop} {o0 : Nat} {a0 : Nat → Nat} {N : Nat} {y : Int32 × zSt} (C0 : zCx p s m args meth c cX11_image 3 (some .int) RX11 (dC, dI) cy) (v1 : Int32) (hA : ∀ q, s.heap.size ≤ q → A q) : ∀ (n : Nat) (s0 : zSt) (v2 : Int32) {H : Heap} {locs : List Loc} (hP : va_P (dC, dI) vwCl (wd_Mo_image cy o0 a0 (zI s0) (zL s0) (zA s0 33) (zA s0 62) (zA s0 63)) H) (hD : va_D A (wd_Mo_image cy o0 a0 (zI s0) (zL s0) (zA s0 33) (zA s0 62) (zA s0 63))) (hS : va_S A s.heap H locs) (hf : Mo_image_h91 N v1 n s0 v2 = some y) (ls : Array Slot) (hl : lv_has ls 3 [(0, .ref o0), (1, .int v1), (2, .int v2)]), W p l e rm_Mo_image s m args below meth c H locs 0 0 (MQ below (zQi y.1 (dC, dI) cy (wd_Mo_image cy o0 a0 (zI y.2) (zL y.2) (zA y.2 33) (zA y.2 62) (zA y.2 63)) A) args s 0 0 A) (F0 m 91 ls []) := by
  intro n
  induction n with
  | zero => intro s0 v2 H locs hP hD hS hf; cases hf
  | succ n ih =>
    intro s0 v2 H locs hP hD hS hf ls hl
    have hf : Mo_image_b91 N (Mo_image_h91 N v1 n) s0 v1 v2 = some y := hf
    exact k_Mo_image_b91 C0 s0 v1 v2 (fun s0 v2 _ _ hP hD hS hf ls hl => ih s0 v2 hP hD hS hf ls hl) hA hP hD hS hf ls hl
set_option maxHeartbeats 4000000 in
set_option maxRecDepth 100000 in
theorem k_Mo_image_b89 {p : Program} {l : Launch} {e : Env} {s : State} {m : MethodId} {args : Array Value} {below : List Frame} {meth : Method} {c : Code} {dC : Nat → ClassId} {dI : Nat → Nat → Nat} {cy : Nat → ClassId} {A : Nat → Prop} {o0 : Nat} {a0 : Nat → Nat} {N : Nat} {y : Int32 × zSt} (C0 : zCx p s m args meth c cX11_image 3 (some .int) RX11 (dC, dI) cy) (s0 : zSt) (v1 : Int32) (hA : ∀ q, s.heap.size ≤ q → A q) {H : Heap} {locs : List Loc} (hP : va_P (dC, dI) vwCl (wd_Mo_image cy o0 a0 (zI s0) (zL s0) (zA s0 33) (zA s0 62) (zA s0 63)) H) (hD : va_D A (wd_Mo_image cy o0 a0 (zI s0) (zL s0) (zA s0 33) (zA s0 62) (zA s0 63))) (hS : va_S A s.heap H locs) (hf : Mo_image_b89 N s0 v1 = some y) (ls : Array Slot) (hl : lv_has ls 3 [(0, .ref o0), (1, .int v1)]) : W p l e rm_Mo_image s m args below meth c H locs 0 0 (MQ below (zQi y.1 (dC, dI) cy (wd_Mo_image cy o0 a0 (zI y.2) (zL y.2) (zA y.2 33) (zA y.2 62) (zA y.2 63)) A) args s 0 0 A) (F0 m 89 ls []) := by
  obtain ⟨hx, hb, hr, hml, hown, hT, hk, hK⟩ := id C0
  refine lv_iconst (v := 0) hx hb dX11_image_89 (by decide) ?_
  refine lv_istore_n (lv' := [(2, .int 0), (0, .ref o0), (1, .int v1)]) hx hb dX11_image_90 rfl hl (by decide) rfl (fun ls hl => ?_)
  exact k_Mo_image_h91 C0 v1  hA N s0 0 hP hD hS hf _ (lv_sub hl [1, 2, 0] rfl)
set_option maxHeartbeats 4000000 in
set_option maxRecDepth 100000 in
theorem k_Mo_image_b74 {p : Program} {l : Launch} {e : Env} {s : State} {m : MethodId} {args : Array Value} {below : List Frame} {meth : Method} {c : Code} {dC : Nat → ClassId} {dI : Nat → Nat → Nat} {cy : Nat → ClassId} {A : Nat → Prop} {o0 : Nat} {a0 : Nat → Nat} {N : Nat} {y : Int32 × zSt} (C0 : zCx p s m args meth c cX11_image 3 (some .int) RX11 (dC, dI) cy) (s0 : zSt) (v1 : Int32) (hA : ∀ q, s.heap.size ≤ q → A q) {H : Heap} {locs : List Loc} (hP : va_P (dC, dI) vwCl (wd_Mo_image cy o0 a0 (zI s0) (zL s0) (zA s0 33) (zA s0 62) (zA s0 63)) H) (hD : va_D A (wd_Mo_image cy o0 a0 (zI s0) (zL s0) (zA s0 33) (zA s0 62) (zA s0 63))) (hS : va_S A s.heap H locs) (hf : Mo_image_b74 N s0 v1 = some y) (ls : Array Slot) (hl : lv_has ls 3 [(0, .ref o0), (1, .int v1)]) : W p l e rm_Mo_image s m args below meth c H locs 0 0 (MQ below (zQi y.1 (dC, dI) cy (wd_Mo_image cy o0 a0 (zI y.2) (zL y.2) (zA y.2 33) (zA y.2 62) (zA y.2 63)) A) args s 0 0 A) (F0 m 74 ls []) := by
  obtain ⟨hx, hb, hr, hml, hown, hT, hk, hK⟩ := id C0
  refine lv_aload_n hx hb dX11_image_74 rfl (lv_at hl 0 rfl) ?_
  refine zget (v := .ref (a0 63)) hx hb hown hT hK hP inX11 rfl smX11 0 rfl 63 (by decide) tb_1065 rfl dX11_image_75 ?_
  refine lv_bipush (v := 16) hx hb dX11_image_78 (by decide) ?_
  refine lv_iload_n hx hb dX11_image_80 rfl (lv_at hl 1 rfl) ?_
  refine lv_imul hx hb dX11_image_81 ?_
  refine lv_iconst (v := 4) hx hb dX11_image_82 (by decide) ?_
  refine lv_iadd hx hb dX11_image_83 ?_
  refine lv_aload_n hx hb dX11_image_84 rfl (lv_at hl 0 rfl) ?_
  refine zget (v := .int (zI s0 38)) hx hb hown hT hK hP inX11 rfl smX11 0 rfl 38 (by decide) tb_1040 rfl dX11_image_85 ?_
  obtain ⟨hi1, hf⟩ := zck_some hf
  refine zast (ws' := (wd_Mo_image cy o0 a0 (zI s0) (zL s0) (zA s0 33) (zA s0 62) (upd (zA s0 63) (Int32.toNatClampNeg ((16 * v1) + 4)) (zI s0 38)))) hx hb hK hP hD hS 3 0 rfl rfl hi1 rfl dX11_image_88 (fun H locs hP hD hS => ?_)
  exact k_Mo_image_b89 C0 (zsA s0 63 (upd (zA s0 63) (Int32.toNatClampNeg ((16 * v1) + 4)) (zI s0 38))) v1  hA hP hD hS hf _ (lv_sub hl [0, 1] rfl)
set_option maxHeartbeats 4000000 in
set_option maxRecDepth 100000 in
theorem k_Mo_image_b59 {p : Program} {l : Launch} {e : Env} {s : State} {m : MethodId} {args : Array Value} {below : List Frame} {meth : Method} {c : Code} {dC : Nat → ClassId} {dI : Nat → Nat → Nat} {cy : Nat → ClassId} {A : Nat → Prop} {o0 : Nat} {a0 : Nat → Nat} {N : Nat} {y : Int32 × zSt} (C0 : zCx p s m args meth c cX11_image 3 (some .int) RX11 (dC, dI) cy) (s0 : zSt) (v1 : Int32) (hA : ∀ q, s.heap.size ≤ q → A q) {H : Heap} {locs : List Loc} (hP : va_P (dC, dI) vwCl (wd_Mo_image cy o0 a0 (zI s0) (zL s0) (zA s0 33) (zA s0 62) (zA s0 63)) H) (hD : va_D A (wd_Mo_image cy o0 a0 (zI s0) (zL s0) (zA s0 33) (zA s0 62) (zA s0 63))) (hS : va_S A s.heap H locs) (hf : Mo_image_b59 N s0 v1 = some y) (ls : Array Slot) (hl : lv_has ls 3 [(0, .ref o0), (1, .int v1)]) : W p l e rm_Mo_image s m args below meth c H locs 0 0 (MQ below (zQi y.1 (dC, dI) cy (wd_Mo_image cy o0 a0 (zI y.2) (zL y.2) (zA y.2 33) (zA y.2 62) (zA y.2 63)) A) args s 0 0 A) (F0 m 59 ls []) := by
  obtain ⟨hx, hb, hr, hml, hown, hT, hk, hK⟩ := id C0
  refine lv_aload_n hx hb dX11_image_59 rfl (lv_at hl 0 rfl) ?_
  refine zget (v := .ref (a0 63)) hx hb hown hT hK hP inX11 rfl smX11 0 rfl 63 (by decide) tb_1065 rfl dX11_image_60 ?_
  refine lv_bipush (v := 16) hx hb dX11_image_63 (by decide) ?_
  refine lv_iload_n hx hb dX11_image_65 rfl (lv_at hl 1 rfl) ?_
  refine lv_imul hx hb dX11_image_66 ?_
  refine lv_iconst (v := 3) hx hb dX11_image_67 (by decide) ?_
  refine lv_iadd hx hb dX11_image_68 ?_
  refine lv_aload_n hx hb dX11_image_69 rfl (lv_at hl 0 rfl) ?_
  refine zget (v := .int (zI s0 37)) hx hb hown hT hK hP inX11 rfl smX11 0 rfl 37 (by decide) tb_1039 rfl dX11_image_70 ?_
  obtain ⟨hi1, hf⟩ := zck_some hf
  refine zast (ws' := (wd_Mo_image cy o0 a0 (zI s0) (zL s0) (zA s0 33) (zA s0 62) (upd (zA s0 63) (Int32.toNatClampNeg ((16 * v1) + 3)) (zI s0 37)))) hx hb hK hP hD hS 3 0 rfl rfl hi1 rfl dX11_image_73 (fun H locs hP hD hS => ?_)
  exact k_Mo_image_b74 C0 (zsA s0 63 (upd (zA s0 63) (Int32.toNatClampNeg ((16 * v1) + 3)) (zI s0 37))) v1  hA hP hD hS hf _ (lv_sub hl [0, 1] rfl)
set_option maxHeartbeats 4000000 in
set_option maxRecDepth 100000 in
theorem k_Mo_image_b0 {p : Program} {l : Launch} {e : Env} {s : State} {m : MethodId} {args : Array Value} {below : List Frame} {meth : Method} {c : Code} {dC : Nat → ClassId} {dI : Nat → Nat → Nat} {cy : Nat → ClassId} {A : Nat → Prop} {o0 : Nat} {a0 : Nat → Nat} {N : Nat} {y : Int32 × zSt} (C0 : zCx p s m args meth c cX11_image 3 (some .int) RX11 (dC, dI) cy) (s0 : zSt) (v1 : Int32) (hA : ∀ q, s.heap.size ≤ q → A q) {H : Heap} {locs : List Loc} (hP : va_P (dC, dI) vwCl (wd_Mo_image cy o0 a0 (zI s0) (zL s0) (zA s0 33) (zA s0 62) (zA s0 63)) H) (hD : va_D A (wd_Mo_image cy o0 a0 (zI s0) (zL s0) (zA s0 33) (zA s0 62) (zA s0 63))) (hS : va_S A s.heap H locs) (hf : Mo_image_b0 N s0 v1 = some y) (ls : Array Slot) (hl : lv_has ls 3 [(0, .ref o0), (1, .int v1)]) : W p l e rm_Mo_image s m args below meth c H locs 0 0 (MQ below (zQi y.1 (dC, dI) cy (wd_Mo_image cy o0 a0 (zI y.2) (zL y.2) (zA y.2 33) (zA y.2 62) (zA y.2 63)) A) args s 0 0 A) (F0 m 0 ls []) := by
  obtain ⟨hx, hb, hr, hml, hown, hT, hk, hK⟩ := id C0
  refine lv_iload_n hx hb dX11_image_0 rfl (lv_at hl 1 rfl) ?_
  obtain ⟨z1, hc2, hf⟩ := zbd_some hf
  refine zri (zS (As := [.int v1]) hx hb hml hown hT hl.1 (c_Mo_isBox v1 hc2) zY_Mo_isBox tb_1533 (zpS hK hP [] rfl) rm_ok_Mo_image_Mo_isBox rfl rfl (Nat.le_of_ble_eq_true rfl) dX11_image_1 ⟨Nat.zero_le _, Nat.zero_le _⟩) ?_
  refine lv_if_ne (tgt := 9) hx hb dX11_image_4 (by decide) (fun hb_3 => ?_) (fun hb_3 => ?_)
  · have hf := zif_f hb_3 hf
    refine lv_aload_n hx hb dX11_image_9 rfl (lv_at hl 0 rfl) ?_
    refine zget (v := .ref (a0 62)) hx hb hown hT hK hP inX11 rfl smX11 0 rfl 62 (by decide) tb_1064 rfl dX11_image_10 ?_
    refine lv_iload_n hx hb dX11_image_13 rfl (lv_at hl 1 rfl) ?_
    refine lv_iconst (v := 1) hx hb dX11_image_14 (by decide) ?_
    obtain ⟨hi4, hf⟩ := zck_some hf
    refine zzst (ws' := (wd_Mo_image cy o0 a0 (zI s0) (zL s0) (zA s0 33) (upd (zA s0 62) (Int32.toNatClampNeg v1) 1) (zA s0 63))) hx hb hK hP hD hS 2 3 rfl rfl hi4 (by decide) rfl dX11_image_15 (fun H locs hP hD hS => ?_)
    refine lv_aload_n hx hb dX11_image_16 rfl (lv_at hl 0 rfl) ?_
    refine zget (v := .ref (a0 63)) hx hb hown hT hK hP inX11 rfl smX11 0 rfl 63 (by decide) tb_1065 rfl dX11_image_17 ?_
    refine lv_bipush (v := 16) hx hb dX11_image_20 (by decide) ?_
    refine lv_iload_n hx hb dX11_image_22 rfl (lv_at hl 1 rfl) ?_
    refine lv_imul hx hb dX11_image_23 ?_
    refine lv_aload_n hx hb dX11_image_24 rfl (lv_at hl 0 rfl) ?_
    refine zget (v := .int (zI s0 34)) hx hb hown hT hK hP inX11 rfl smX11 0 rfl 34 (by decide) tb_1036 rfl dX11_image_25 ?_
    obtain ⟨hi5, hf⟩ := zck_some hf
    refine zast (ws' := (wd_Mo_image cy o0 a0 (zI s0) (zL s0) (zA s0 33) (upd (zA s0 62) (Int32.toNatClampNeg v1) 1) (upd (zA s0 63) (Int32.toNatClampNeg (16 * v1)) (zI s0 34)))) hx hb hK hP hD hS 3 0 rfl rfl hi5 rfl dX11_image_28 (fun H locs hP hD hS => ?_)
    refine lv_aload_n hx hb dX11_image_29 rfl (lv_at hl 0 rfl) ?_
    refine zget (v := .ref (a0 63)) hx hb hown hT hK hP inX11 rfl smX11 0 rfl 63 (by decide) tb_1065 rfl dX11_image_30 ?_
    refine lv_bipush (v := 16) hx hb dX11_image_33 (by decide) ?_
    refine lv_iload_n hx hb dX11_image_35 rfl (lv_at hl 1 rfl) ?_
    refine lv_imul hx hb dX11_image_36 ?_
    refine lv_iconst (v := 1) hx hb dX11_image_37 (by decide) ?_
    refine lv_iadd hx hb dX11_image_38 ?_
    refine lv_aload_n hx hb dX11_image_39 rfl (lv_at hl 0 rfl) ?_
    refine zget (v := .int (zI s0 35)) hx hb hown hT hK hP inX11 rfl smX11 0 rfl 35 (by decide) tb_1037 rfl dX11_image_40 ?_
    obtain ⟨hi6, hf⟩ := zck_some hf
    refine zast (ws' := (wd_Mo_image cy o0 a0 (zI s0) (zL s0) (zA s0 33) (upd (zA s0 62) (Int32.toNatClampNeg v1) 1) (upd (upd (zA s0 63) (Int32.toNatClampNeg (16 * v1)) (zI s0 34)) (Int32.toNatClampNeg ((16 * v1) + 1)) (zI s0 35)))) hx hb hK hP hD hS 3 0 rfl rfl hi6 rfl dX11_image_43 (fun H locs hP hD hS => ?_)
    refine lv_aload_n hx hb dX11_image_44 rfl (lv_at hl 0 rfl) ?_
    refine zget (v := .ref (a0 63)) hx hb hown hT hK hP inX11 rfl smX11 0 rfl 63 (by decide) tb_1065 rfl dX11_image_45 ?_
    refine lv_bipush (v := 16) hx hb dX11_image_48 (by decide) ?_
    refine lv_iload_n hx hb dX11_image_50 rfl (lv_at hl 1 rfl) ?_
    refine lv_imul hx hb dX11_image_51 ?_
    refine lv_iconst (v := 2) hx hb dX11_image_52 (by decide) ?_
    refine lv_iadd hx hb dX11_image_53 ?_
    refine lv_aload_n hx hb dX11_image_54 rfl (lv_at hl 0 rfl) ?_
    refine zget (v := .int (zI s0 36)) hx hb hown hT hK hP inX11 rfl smX11 0 rfl 36 (by decide) tb_1038 rfl dX11_image_55 ?_
    obtain ⟨hi7, hf⟩ := zck_some hf
    refine zast (ws' := (wd_Mo_image cy o0 a0 (zI s0) (zL s0) (zA s0 33) (upd (zA s0 62) (Int32.toNatClampNeg v1) 1) (upd (upd (upd (zA s0 63) (Int32.toNatClampNeg (16 * v1)) (zI s0 34)) (Int32.toNatClampNeg ((16 * v1) + 1)) (zI s0 35)) (Int32.toNatClampNeg ((16 * v1) + 2)) (zI s0 36)))) hx hb hK hP hD hS 3 0 rfl rfl hi7 rfl dX11_image_58 (fun H locs hP hD hS => ?_)
    exact k_Mo_image_b59 C0 (zsA (zsA (zsA (zsA s0 62 (upd (zA s0 62) (Int32.toNatClampNeg v1) 1)) 63 (upd (zA s0 63) (Int32.toNatClampNeg (16 * v1)) (zI s0 34))) 63 (upd (upd (zA s0 63) (Int32.toNatClampNeg (16 * v1)) (zI s0 34)) (Int32.toNatClampNeg ((16 * v1) + 1)) (zI s0 35))) 63 (upd (upd (upd (zA s0 63) (Int32.toNatClampNeg (16 * v1)) (zI s0 34)) (Int32.toNatClampNeg ((16 * v1) + 1)) (zI s0 35)) (Int32.toNatClampNeg ((16 * v1) + 2)) (zI s0 36))) v1  hA hP hD hS hf _ (lv_sub hl [0, 1] rfl)
  · have hf := zif_t hb_3 hf
    refine lv_iconst (v := (-1)) hx hb dX11_image_7 (by decide) ?_
    cases hf
    exact zewi hx hb hr hk hK hP hD hS dX11_image_8
set_option maxHeartbeats 4000000 in
set_option maxRecDepth 100000 in
theorem c_Mo_image {l : Launch} {dC : Nat → ClassId} {dI : Nat → Nat → Nat} {cy : Nat → ClassId} {sz : Nat} {N : Nat} (o0 : Nat) (a0 : Nat → Nat) (s0 : zSt) (v1 : Int32) {y : Int32 × zSt} (hf : Mo_image N s0 v1 = some y) : Met l yX11_image (.code yX11_image cX11_image 3 (some .int) :: zt) rm_Mo_image (va_Pc [.ref o0, .int v1] (zPre (dC, dI) cy (wd_Mo_image cy o0 a0 (zI s0) (zL s0) (zA s0 33) (zA s0 62) (zA s0 63)) sz)) (zQi y.1 (dC, dI) cy (wd_Mo_image cy o0 a0 (zI y.2) (zL y.2) (zA y.2 33) (zA y.2 62) (zA y.2 63)) (va_A (wd_Mo_image cy o0 a0 (zI s0) (zL s0) (zA s0 33) (zA s0 62) (zA s0 63)) sz)) 0 0 (va_A (wd_Mo_image cy o0 a0 (zI s0) (zL s0) (zA s0 33) (zA s0 62) (zA s0 63)) sz) :=
  zentW (Qw := fun A => (zQi y.1 (dC, dI) cy (wd_Mo_image cy o0 a0 (zI y.2) (zL y.2) (zA y.2 33) (zA y.2 62) (zA y.2 63)) A)) (by decide +kernel) (Nat.le_of_ble_eq_true rfl) (fun p e s m below meth c A C0 hA hP hD hS ls hl => k_Mo_image_b0 C0 s0 v1 hA hP hD hS hf ls hl)
def wd_Mo_back (cy : Nat → ClassId) (o0 : Nat) (a0 : Nat → Nat) (g0 : Nat → Int32) (h0 : Nat → Int64) (x0_33 : Nat → Int32) (x0_62 : Nat → Int32) (x0_63 : Nat → Int32) : va_W := [(o0, .inr (11, fs_Mo a0 g0 h0)), (a0 33, .inl (cy 0, 11, .inl x0_33)), (a0 62, .inl (cy 3, 3, .inl x0_62)), (a0 63, .inl (cy 0, 48, .inl x0_63))]
def rm_Mo_back : Room := { frames := 2, cells := 0, slots := 0, locals := 60 }
theorem rm_ok_Mo_back_Mo_isBox : rm_Mo_isBox.cells = 0 ∧ rm_Mo_isBox.slots = 0 ∧ rm_Mo_isBox.frames + 1 ≤ rm_Mo_back.frames ∧ 8 + (1 + 11) + rm_Mo_isBox.locals ≤ rm_Mo_back.locals := by decide
set_option maxHeartbeats 4000000 in
set_option maxRecDepth 100000 in
theorem k_Mo_back_b93 {p : Program} {l : Launch} {e : Env} {s : State} {m : MethodId} {args : Array Value} {below : List Frame} {meth : Method} {c : Code} {dC : Nat → ClassId} {dI : Nat → Nat → Nat} {cy : Nat → ClassId} {A : Nat → Prop} {o0 : Nat} {a0 : Nat → Nat} {N : Nat} {kh93 : zSt → Int32 → Option (Int32 × zSt)} {y : Int32 × zSt} (C0 : zCx p s m args meth c cX11_back 3 (some .int) RX11 (dC, dI) cy) (s0 : zSt) (v1 : Int32) (v2 : Int32) (hk93 : ∀ (s0 : zSt) (v2 : Int32) {H : Heap} {locs : List Loc} (_ : va_P (dC, dI) vwCl (wd_Mo_back cy o0 a0 (zI s0) (zL s0) (zA s0 33) (zA s0 62) (zA s0 63)) H) (_ : va_D A (wd_Mo_back cy o0 a0 (zI s0) (zL s0) (zA s0 33) (zA s0 62) (zA s0 63))) (_ : va_S A s.heap H locs) (_ : kh93 s0 v2 = some y) (ls : Array Slot) (_ : lv_has ls 3 [(0, .ref o0), (1, .int v1), (2, .int v2)]), W p l e rm_Mo_back s m args below meth c H locs 0 0 (MQ below (zQi y.1 (dC, dI) cy (wd_Mo_back cy o0 a0 (zI y.2) (zL y.2) (zA y.2 33) (zA y.2 62) (zA y.2 63)) A) args s 0 0 A) (F0 m 93 ls [])) (hA : ∀ q, s.heap.size ≤ q → A q) {H : Heap} {locs : List Loc} (hP : va_P (dC, dI) vwCl (wd_Mo_back cy o0 a0 (zI s0) (zL s0) (zA s0 33) (zA s0 62) (zA s0 63)) H) (hD : va_D A (wd_Mo_back cy o0 a0 (zI s0) (zL s0) (zA s0 33) (zA s0 62) (zA s0 63))) (hS : va_S A s.heap H locs) (hf : Mo_back_b93 N kh93 s0 v1 v2 = some y) (ls : Array Slot) (hl : lv_has ls 3 [(0, .ref o0), (1, .int v1), (2, .int v2)]) : W p l e rm_Mo_back s m args below meth c H locs 0 0 (MQ below (zQi y.1 (dC, dI) cy (wd_Mo_back cy o0 a0 (zI y.2) (zL y.2) (zA y.2 33) (zA y.2 62) (zA y.2 63)) A) args s 0 0 A) (F0 m 93 ls []) := by
  obtain ⟨hx, hb, hr, hml, hown, hT, hk, hK⟩ := id C0
  refine lv_iload_n hx hb dX11_back_93 rfl (lv_at hl 2 rfl) ?_
  refine lv_bipush (v := 11) hx hb dX11_back_94 (by decide) ?_
  refine lv_icmp_ge (tgt := 124) hx hb dX11_back_96 (by decide) (fun hb_1 => ?_) (fun hb_1 => ?_)
  · have hf := zif_t hb_1 hf
    refine lv_aload_n hx hb dX11_back_124 rfl (lv_at hl 0 rfl) ?_
    refine zget (v := .int (zI s0 38)) hx hb hown hT hK hP inX11 rfl smX11 0 rfl 38 (by decide) tb_1040 rfl dX11_back_125 ?_
    cases hf
    exact zewi hx hb hr hk hK hP hD hS dX11_back_128
  · have hf := zif_f hb_1 hf
    refine lv_aload_n hx hb dX11_back_99 rfl (lv_at hl 0 rfl) ?_
    refine zget (v := .ref (a0 33)) hx hb hown hT hK hP inX11 rfl smX11 0 rfl 33 (by decide) tb_1035 rfl dX11_back_100 ?_
    refine lv_iload_n hx hb dX11_back_103 rfl (lv_at hl 2 rfl) ?_
    refine lv_aload_n hx hb dX11_back_104 rfl (lv_at hl 0 rfl) ?_
    refine zget (v := .ref (a0 63)) hx hb hown hT hK hP inX11 rfl smX11 0 rfl 63 (by decide) tb_1065 rfl dX11_back_105 ?_
    refine lv_bipush (v := 16) hx hb dX11_back_108 (by decide) ?_
    refine lv_iload_n hx hb dX11_back_110 rfl (lv_at hl 1 rfl) ?_
    refine lv_imul hx hb dX11_back_111 ?_
    refine lv_iconst (v := 5) hx hb dX11_back_112 (by decide) ?_
    refine lv_iadd hx hb dX11_back_113 ?_
    refine lv_iload_n hx hb dX11_back_114 rfl (lv_at hl 2 rfl) ?_
    refine lv_iadd hx hb dX11_back_115 ?_
    obtain ⟨hi2, hf⟩ := zck_some hf
    refine va_iald hx hb hK.1 hP 3 0 rfl rfl hi2 dX11_back_116 ?_
    obtain ⟨hi3, hf⟩ := zck_some hf
    refine zast (ws' := (wd_Mo_back cy o0 a0 (zI s0) (zL s0) (upd (zA s0 33) (Int32.toNatClampNeg v2) ((zA s0 63) (Int32.toNatClampNeg (((16 * v1) + 5) + v2)))) (zA s0 62) (zA s0 63))) hx hb hK hP hD hS 1 0 rfl rfl hi3 rfl dX11_back_117 (fun H locs hP hD hS => ?_)
    refine lv_iinc (v := v2 + 1) (lv' := [(2, .int (v2 + 1)), (0, .ref o0), (1, .int v1)]) hx hb dX11_back_118 hl (k := 2) rfl rfl (by decide) rfl (fun ls hl => ?_)
    refine lv_goto (tgt := 93) hx hb dX11_back_121 (by decide) ?_
    exact hk93 (zsA s0 33 (upd (zA s0 33) (Int32.toNatClampNeg v2) ((zA s0 63) (Int32.toNatClampNeg (((16 * v1) + 5) + v2))))) (v2 + 1) hP hD hS hf _ (lv_sub hl [1, 2, 0] rfl)
set_option maxHeartbeats 4000000 in
set_option maxRecDepth 100000 in
theorem k_Mo_back_h93 {p : Program} {l : Launch} {e : Env} {s : State} {m : MethodId} {args : Array Value} {below : List Frame} {meth : Method} {c : Code} {dC : Nat → ClassId} {dI : Nat → Nat → Nat} {cy : Nat → ClassId} {A : Nat → Prop} {o0 : Nat} {a0 : Nat → Nat} {N : Nat} {y : Int32 × zSt} (C0 : zCx p s m args meth c cX11_back 3 (some .int) RX11 (dC, dI) cy) (v1 : Int32) (hA : ∀ q, s.heap.size ≤ q → A q) : ∀ (n : Nat) (s0 : zSt) (v2 : Int32) {H : Heap} {locs : List Loc} (hP : va_P (dC, dI) vwCl (wd_Mo_back cy o0 a0 (zI s0) (zL s0) (zA s0 33) (zA s0 62) (zA s0 63)) H) (hD : va_D A (wd_Mo_back cy o0 a0 (zI s0) (zL s0) (zA s0 33) (zA s0 62) (zA s0 63))) (hS : va_S A s.heap H locs) (hf : Mo_back_h93 N v1 n s0 v2 = some y) (ls : Array Slot) (hl : lv_has ls 3 [(0, .ref o0), (1, .int v1), (2, .int v2)]), W p l e rm_Mo_back s m args below meth c H locs 0 0 (MQ below (zQi y.1 (dC, dI) cy (wd_Mo_back cy o0 a0 (zI y.2) (zL y.2) (zA y.2 33) (zA y.2 62) (zA y.2 63)) A) args s 0 0 A) (F0 m 93 ls []) := by
  intro n
  induction n with
  | zero => intro s0 v2 H locs hP hD hS hf; cases hf
  | succ n ih =>
    intro s0 v2 H locs hP hD hS hf ls hl
    have hf : Mo_back_b93 N (Mo_back_h93 N v1 n) s0 v1 v2 = some y := hf
    exact k_Mo_back_b93 C0 s0 v1 v2 (fun s0 v2 _ _ hP hD hS hf ls hl => ih s0 v2 hP hD hS hf ls hl) hA hP hD hS hf ls hl
set_option maxHeartbeats 4000000 in
set_option maxRecDepth 100000 in
theorem k_Mo_back_b91 {p : Program} {l : Launch} {e : Env} {s : State} {m : MethodId} {args : Array Value} {below : List Frame} {meth : Method} {c : Code} {dC : Nat → ClassId} {dI : Nat → Nat → Nat} {cy : Nat → ClassId} {A : Nat → Prop} {o0 : Nat} {a0 : Nat → Nat} {N : Nat} {y : Int32 × zSt} (C0 : zCx p s m args meth c cX11_back 3 (some .int) RX11 (dC, dI) cy) (s0 : zSt) (v1 : Int32) (hA : ∀ q, s.heap.size ≤ q → A q) {H : Heap} {locs : List Loc} (hP : va_P (dC, dI) vwCl (wd_Mo_back cy o0 a0 (zI s0) (zL s0) (zA s0 33) (zA s0 62) (zA s0 63)) H) (hD : va_D A (wd_Mo_back cy o0 a0 (zI s0) (zL s0) (zA s0 33) (zA s0 62) (zA s0 63))) (hS : va_S A s.heap H locs) (hf : Mo_back_b91 N s0 v1 = some y) (ls : Array Slot) (hl : lv_has ls 3 [(0, .ref o0), (1, .int v1)]) : W p l e rm_Mo_back s m args below meth c H locs 0 0 (MQ below (zQi y.1 (dC, dI) cy (wd_Mo_back cy o0 a0 (zI y.2) (zL y.2) (zA y.2 33) (zA y.2 62) (zA y.2 63)) A) args s 0 0 A) (F0 m 91 ls []) := by
  obtain ⟨hx, hb, hr, hml, hown, hT, hk, hK⟩ := id C0
  refine lv_iconst (v := 0) hx hb dX11_back_91 (by decide) ?_
  refine lv_istore_n (lv' := [(2, .int 0), (0, .ref o0), (1, .int v1)]) hx hb dX11_back_92 rfl hl (by decide) rfl (fun ls hl => ?_)
  exact k_Mo_back_h93 C0 v1  hA N s0 0 hP hD hS hf _ (lv_sub hl [1, 2, 0] rfl)
set_option maxHeartbeats 4000000 in
set_option maxRecDepth 100000 in
theorem k_Mo_back_b76 {p : Program} {l : Launch} {e : Env} {s : State} {m : MethodId} {args : Array Value} {below : List Frame} {meth : Method} {c : Code} {dC : Nat → ClassId} {dI : Nat → Nat → Nat} {cy : Nat → ClassId} {A : Nat → Prop} {o0 : Nat} {a0 : Nat → Nat} {N : Nat} {y : Int32 × zSt} (C0 : zCx p s m args meth c cX11_back 3 (some .int) RX11 (dC, dI) cy) (s0 : zSt) (v1 : Int32) (hA : ∀ q, s.heap.size ≤ q → A q) {H : Heap} {locs : List Loc} (hP : va_P (dC, dI) vwCl (wd_Mo_back cy o0 a0 (zI s0) (zL s0) (zA s0 33) (zA s0 62) (zA s0 63)) H) (hD : va_D A (wd_Mo_back cy o0 a0 (zI s0) (zL s0) (zA s0 33) (zA s0 62) (zA s0 63))) (hS : va_S A s.heap H locs) (hf : Mo_back_b76 N s0 v1 = some y) (ls : Array Slot) (hl : lv_has ls 3 [(0, .ref o0), (1, .int v1)]) : W p l e rm_Mo_back s m args below meth c H locs 0 0 (MQ below (zQi y.1 (dC, dI) cy (wd_Mo_back cy o0 a0 (zI y.2) (zL y.2) (zA y.2 33) (zA y.2 62) (zA y.2 63)) A) args s 0 0 A) (F0 m 76 ls []) := by
  obtain ⟨hx, hb, hr, hml, hown, hT, hk, hK⟩ := id C0
  refine lv_aload_n hx hb dX11_back_76 rfl (lv_at hl 0 rfl) ?_
  refine lv_aload_n hx hb dX11_back_77 rfl (lv_at hl 0 rfl) ?_
  refine zget (v := .ref (a0 63)) hx hb hown hT hK hP inX11 rfl smX11 0 rfl 63 (by decide) tb_1065 rfl dX11_back_78 ?_
  refine lv_bipush (v := 16) hx hb dX11_back_81 (by decide) ?_
  refine lv_iload_n hx hb dX11_back_83 rfl (lv_at hl 1 rfl) ?_
  refine lv_imul hx hb dX11_back_84 ?_
  refine lv_iconst (v := 4) hx hb dX11_back_85 (by decide) ?_
  refine lv_iadd hx hb dX11_back_86 ?_
  obtain ⟨hi1, hf⟩ := zck_some hf
  refine va_iald hx hb hK.1 hP 3 0 rfl rfl hi1 dX11_back_87 ?_
  refine zput (fs' := fs_Mo a0 (upd (zI s0) 38 ((zA s0 63) (Int32.toNatClampNeg ((16 * v1) + 4)))) (zL s0)) (ws' := (wd_Mo_back cy o0 a0 (upd (zI s0) 38 ((zA s0 63) (Int32.toNatClampNeg ((16 * v1) + 4)))) (zL s0) (zA s0 33) (zA s0 62) (zA s0 63))) hx hb hown hT hK hP hD hS inX11 rfl smX11 tyX11_ok nmX11 0 rfl 38 (by decide) tb_1040 rfl rfl rfl (Nat.le_of_ble_eq_true rfl) rfl rfl dX11_back_88 (fun H locs hP hD hS => ?_)
  exact k_Mo_back_b91 C0 (zpI s0 38 ((zA s0 63) (Int32.toNatClampNeg ((16 * v1) + 4)))) v1  hA hP hD hS hf _ (lv_sub hl [0, 1] rfl)
set_option maxHeartbeats 4000000 in
set_option maxRecDepth 100000 in
theorem k_Mo_back_b61 {p : Program} {l : Launch} {e : Env} {s : State} {m : MethodId} {args : Array Value} {below : List Frame} {meth : Method} {c : Code} {dC : Nat → ClassId} {dI : Nat → Nat → Nat} {cy : Nat → ClassId} {A : Nat → Prop} {o0 : Nat} {a0 : Nat → Nat} {N : Nat} {y : Int32 × zSt} (C0 : zCx p s m args meth c cX11_back 3 (some .int) RX11 (dC, dI) cy) (s0 : zSt) (v1 : Int32) (hA : ∀ q, s.heap.size ≤ q → A q) {H : Heap} {locs : List Loc} (hP : va_P (dC, dI) vwCl (wd_Mo_back cy o0 a0 (zI s0) (zL s0) (zA s0 33) (zA s0 62) (zA s0 63)) H) (hD : va_D A (wd_Mo_back cy o0 a0 (zI s0) (zL s0) (zA s0 33) (zA s0 62) (zA s0 63))) (hS : va_S A s.heap H locs) (hf : Mo_back_b61 N s0 v1 = some y) (ls : Array Slot) (hl : lv_has ls 3 [(0, .ref o0), (1, .int v1)]) : W p l e rm_Mo_back s m args below meth c H locs 0 0 (MQ below (zQi y.1 (dC, dI) cy (wd_Mo_back cy o0 a0 (zI y.2) (zL y.2) (zA y.2 33) (zA y.2 62) (zA y.2 63)) A) args s 0 0 A) (F0 m 61 ls []) := by
  obtain ⟨hx, hb, hr, hml, hown, hT, hk, hK⟩ := id C0
  refine lv_aload_n hx hb dX11_back_61 rfl (lv_at hl 0 rfl) ?_
  refine lv_aload_n hx hb dX11_back_62 rfl (lv_at hl 0 rfl) ?_
  refine zget (v := .ref (a0 63)) hx hb hown hT hK hP inX11 rfl smX11 0 rfl 63 (by decide) tb_1065 rfl dX11_back_63 ?_
  refine lv_bipush (v := 16) hx hb dX11_back_66 (by decide) ?_
  refine lv_iload_n hx hb dX11_back_68 rfl (lv_at hl 1 rfl) ?_
  refine lv_imul hx hb dX11_back_69 ?_
  refine lv_iconst (v := 3) hx hb dX11_back_70 (by decide) ?_
  refine lv_iadd hx hb dX11_back_71 ?_
  obtain ⟨hi1, hf⟩ := zck_some hf
  refine va_iald hx hb hK.1 hP 3 0 rfl rfl hi1 dX11_back_72 ?_
  refine zput (fs' := fs_Mo a0 (upd (zI s0) 37 ((zA s0 63) (Int32.toNatClampNeg ((16 * v1) + 3)))) (zL s0)) (ws' := (wd_Mo_back cy o0 a0 (upd (zI s0) 37 ((zA s0 63) (Int32.toNatClampNeg ((16 * v1) + 3)))) (zL s0) (zA s0 33) (zA s0 62) (zA s0 63))) hx hb hown hT hK hP hD hS inX11 rfl smX11 tyX11_ok nmX11 0 rfl 37 (by decide) tb_1039 rfl rfl rfl (Nat.le_of_ble_eq_true rfl) rfl rfl dX11_back_73 (fun H locs hP hD hS => ?_)
  exact k_Mo_back_b76 C0 (zpI s0 37 ((zA s0 63) (Int32.toNatClampNeg ((16 * v1) + 3)))) v1  hA hP hD hS hf _ (lv_sub hl [0, 1] rfl)
set_option maxHeartbeats 4000000 in
set_option maxRecDepth 100000 in
theorem k_Mo_back_b46 {p : Program} {l : Launch} {e : Env} {s : State} {m : MethodId} {args : Array Value} {below : List Frame} {meth : Method} {c : Code} {dC : Nat → ClassId} {dI : Nat → Nat → Nat} {cy : Nat → ClassId} {A : Nat → Prop} {o0 : Nat} {a0 : Nat → Nat} {N : Nat} {y : Int32 × zSt} (C0 : zCx p s m args meth c cX11_back 3 (some .int) RX11 (dC, dI) cy) (s0 : zSt) (v1 : Int32) (hA : ∀ q, s.heap.size ≤ q → A q) {H : Heap} {locs : List Loc} (hP : va_P (dC, dI) vwCl (wd_Mo_back cy o0 a0 (zI s0) (zL s0) (zA s0 33) (zA s0 62) (zA s0 63)) H) (hD : va_D A (wd_Mo_back cy o0 a0 (zI s0) (zL s0) (zA s0 33) (zA s0 62) (zA s0 63))) (hS : va_S A s.heap H locs) (hf : Mo_back_b46 N s0 v1 = some y) (ls : Array Slot) (hl : lv_has ls 3 [(0, .ref o0), (1, .int v1)]) : W p l e rm_Mo_back s m args below meth c H locs 0 0 (MQ below (zQi y.1 (dC, dI) cy (wd_Mo_back cy o0 a0 (zI y.2) (zL y.2) (zA y.2 33) (zA y.2 62) (zA y.2 63)) A) args s 0 0 A) (F0 m 46 ls []) := by
  obtain ⟨hx, hb, hr, hml, hown, hT, hk, hK⟩ := id C0
  refine lv_aload_n hx hb dX11_back_46 rfl (lv_at hl 0 rfl) ?_
  refine lv_aload_n hx hb dX11_back_47 rfl (lv_at hl 0 rfl) ?_
  refine zget (v := .ref (a0 63)) hx hb hown hT hK hP inX11 rfl smX11 0 rfl 63 (by decide) tb_1065 rfl dX11_back_48 ?_
  refine lv_bipush (v := 16) hx hb dX11_back_51 (by decide) ?_
  refine lv_iload_n hx hb dX11_back_53 rfl (lv_at hl 1 rfl) ?_
  refine lv_imul hx hb dX11_back_54 ?_
  refine lv_iconst (v := 2) hx hb dX11_back_55 (by decide) ?_
  refine lv_iadd hx hb dX11_back_56 ?_
  obtain ⟨hi1, hf⟩ := zck_some hf
  refine va_iald hx hb hK.1 hP 3 0 rfl rfl hi1 dX11_back_57 ?_
  refine zput (fs' := fs_Mo a0 (upd (zI s0) 36 ((zA s0 63) (Int32.toNatClampNeg ((16 * v1) + 2)))) (zL s0)) (ws' := (wd_Mo_back cy o0 a0 (upd (zI s0) 36 ((zA s0 63) (Int32.toNatClampNeg ((16 * v1) + 2)))) (zL s0) (zA s0 33) (zA s0 62) (zA s0 63))) hx hb hown hT hK hP hD hS inX11 rfl smX11 tyX11_ok nmX11 0 rfl 36 (by decide) tb_1038 rfl rfl rfl (Nat.le_of_ble_eq_true rfl) rfl rfl dX11_back_58 (fun H locs hP hD hS => ?_)
  exact k_Mo_back_b61 C0 (zpI s0 36 ((zA s0 63) (Int32.toNatClampNeg ((16 * v1) + 2)))) v1  hA hP hD hS hf _ (lv_sub hl [0, 1] rfl)
set_option maxHeartbeats 4000000 in
set_option maxRecDepth 100000 in
theorem k_Mo_back_b31 {p : Program} {l : Launch} {e : Env} {s : State} {m : MethodId} {args : Array Value} {below : List Frame} {meth : Method} {c : Code} {dC : Nat → ClassId} {dI : Nat → Nat → Nat} {cy : Nat → ClassId} {A : Nat → Prop} {o0 : Nat} {a0 : Nat → Nat} {N : Nat} {y : Int32 × zSt} (C0 : zCx p s m args meth c cX11_back 3 (some .int) RX11 (dC, dI) cy) (s0 : zSt) (v1 : Int32) (hA : ∀ q, s.heap.size ≤ q → A q) {H : Heap} {locs : List Loc} (hP : va_P (dC, dI) vwCl (wd_Mo_back cy o0 a0 (zI s0) (zL s0) (zA s0 33) (zA s0 62) (zA s0 63)) H) (hD : va_D A (wd_Mo_back cy o0 a0 (zI s0) (zL s0) (zA s0 33) (zA s0 62) (zA s0 63))) (hS : va_S A s.heap H locs) (hf : Mo_back_b31 N s0 v1 = some y) (ls : Array Slot) (hl : lv_has ls 3 [(0, .ref o0), (1, .int v1)]) : W p l e rm_Mo_back s m args below meth c H locs 0 0 (MQ below (zQi y.1 (dC, dI) cy (wd_Mo_back cy o0 a0 (zI y.2) (zL y.2) (zA y.2 33) (zA y.2 62) (zA y.2 63)) A) args s 0 0 A) (F0 m 31 ls []) := by
  obtain ⟨hx, hb, hr, hml, hown, hT, hk, hK⟩ := id C0
  refine lv_aload_n hx hb dX11_back_31 rfl (lv_at hl 0 rfl) ?_
  refine lv_aload_n hx hb dX11_back_32 rfl (lv_at hl 0 rfl) ?_
  refine zget (v := .ref (a0 63)) hx hb hown hT hK hP inX11 rfl smX11 0 rfl 63 (by decide) tb_1065 rfl dX11_back_33 ?_
  refine lv_bipush (v := 16) hx hb dX11_back_36 (by decide) ?_
  refine lv_iload_n hx hb dX11_back_38 rfl (lv_at hl 1 rfl) ?_
  refine lv_imul hx hb dX11_back_39 ?_
  refine lv_iconst (v := 1) hx hb dX11_back_40 (by decide) ?_
  refine lv_iadd hx hb dX11_back_41 ?_
  obtain ⟨hi1, hf⟩ := zck_some hf
  refine va_iald hx hb hK.1 hP 3 0 rfl rfl hi1 dX11_back_42 ?_
  refine zput (fs' := fs_Mo a0 (upd (zI s0) 35 ((zA s0 63) (Int32.toNatClampNeg ((16 * v1) + 1)))) (zL s0)) (ws' := (wd_Mo_back cy o0 a0 (upd (zI s0) 35 ((zA s0 63) (Int32.toNatClampNeg ((16 * v1) + 1)))) (zL s0) (zA s0 33) (zA s0 62) (zA s0 63))) hx hb hown hT hK hP hD hS inX11 rfl smX11 tyX11_ok nmX11 0 rfl 35 (by decide) tb_1037 rfl rfl rfl (Nat.le_of_ble_eq_true rfl) rfl rfl dX11_back_43 (fun H locs hP hD hS => ?_)
  exact k_Mo_back_b46 C0 (zpI s0 35 ((zA s0 63) (Int32.toNatClampNeg ((16 * v1) + 1)))) v1  hA hP hD hS hf _ (lv_sub hl [0, 1] rfl)
set_option maxHeartbeats 4000000 in
set_option maxRecDepth 100000 in
theorem k_Mo_back_b0 {p : Program} {l : Launch} {e : Env} {s : State} {m : MethodId} {args : Array Value} {below : List Frame} {meth : Method} {c : Code} {dC : Nat → ClassId} {dI : Nat → Nat → Nat} {cy : Nat → ClassId} {A : Nat → Prop} {o0 : Nat} {a0 : Nat → Nat} {N : Nat} {y : Int32 × zSt} (C0 : zCx p s m args meth c cX11_back 3 (some .int) RX11 (dC, dI) cy) (s0 : zSt) (v1 : Int32) (hA : ∀ q, s.heap.size ≤ q → A q) {H : Heap} {locs : List Loc} (hP : va_P (dC, dI) vwCl (wd_Mo_back cy o0 a0 (zI s0) (zL s0) (zA s0 33) (zA s0 62) (zA s0 63)) H) (hD : va_D A (wd_Mo_back cy o0 a0 (zI s0) (zL s0) (zA s0 33) (zA s0 62) (zA s0 63))) (hS : va_S A s.heap H locs) (hf : Mo_back_b0 N s0 v1 = some y) (ls : Array Slot) (hl : lv_has ls 3 [(0, .ref o0), (1, .int v1)]) : W p l e rm_Mo_back s m args below meth c H locs 0 0 (MQ below (zQi y.1 (dC, dI) cy (wd_Mo_back cy o0 a0 (zI y.2) (zL y.2) (zA y.2 33) (zA y.2 62) (zA y.2 63)) A) args s 0 0 A) (F0 m 0 ls []) := by
  obtain ⟨hx, hb, hr, hml, hown, hT, hk, hK⟩ := id C0
  refine lv_iload_n hx hb dX11_back_0 rfl (lv_at hl 1 rfl) ?_
  obtain ⟨z1, hc2, hf⟩ := zbd_some hf
  refine zri (zS (As := [.int v1]) hx hb hml hown hT hl.1 (c_Mo_isBox v1 hc2) zY_Mo_isBox tb_1533 (zpS hK hP [] rfl) rm_ok_Mo_back_Mo_isBox rfl rfl (Nat.le_of_ble_eq_true rfl) dX11_back_1 ⟨Nat.zero_le _, Nat.zero_le _⟩) ?_
  refine lv_if_eq (tgt := 16) hx hb dX11_back_4 (by decide) (fun hb_3 => ?_) (fun hb_3 => ?_)
  · have hf := zif_t hb_3 hf
    refine lv_iconst (v := (-1)) hx hb dX11_back_16 (by decide) ?_
    cases hf
    exact zewi hx hb hr hk hK hP hD hS dX11_back_17
  · have hf := zif_f hb_3 hf
    refine lv_aload_n hx hb dX11_back_7 rfl (lv_at hl 0 rfl) ?_
    refine zget (v := .ref (a0 62)) hx hb hown hT hK hP inX11 rfl smX11 0 rfl 62 (by decide) tb_1064 rfl dX11_back_8 ?_
    refine lv_iload_n hx hb dX11_back_11 rfl (lv_at hl 1 rfl) ?_
    obtain ⟨hi4, hf⟩ := zck_some hf
    refine va_zald hx hb hK.1 hP 2 3 rfl rfl hi4 dX11_back_12 ?_
    refine lv_if_ne (tgt := 18) hx hb dX11_back_13 (by decide) (fun hb_5 => ?_) (fun hb_5 => ?_)
    · have hf := zif_f hb_5 hf
      refine lv_aload_n hx hb dX11_back_18 rfl (lv_at hl 0 rfl) ?_
      refine lv_aload_n hx hb dX11_back_19 rfl (lv_at hl 0 rfl) ?_
      refine zget (v := .ref (a0 63)) hx hb hown hT hK hP inX11 rfl smX11 0 rfl 63 (by decide) tb_1065 rfl dX11_back_20 ?_
      refine lv_bipush (v := 16) hx hb dX11_back_23 (by decide) ?_
      refine lv_iload_n hx hb dX11_back_25 rfl (lv_at hl 1 rfl) ?_
      refine lv_imul hx hb dX11_back_26 ?_
      obtain ⟨hi6, hf⟩ := zck_some hf
      refine va_iald hx hb hK.1 hP 3 0 rfl rfl hi6 dX11_back_27 ?_
      refine zput (fs' := fs_Mo a0 (upd (zI s0) 34 ((zA s0 63) (Int32.toNatClampNeg (16 * v1)))) (zL s0)) (ws' := (wd_Mo_back cy o0 a0 (upd (zI s0) 34 ((zA s0 63) (Int32.toNatClampNeg (16 * v1)))) (zL s0) (zA s0 33) (zA s0 62) (zA s0 63))) hx hb hown hT hK hP hD hS inX11 rfl smX11 tyX11_ok nmX11 0 rfl 34 (by decide) tb_1036 rfl rfl rfl (Nat.le_of_ble_eq_true rfl) rfl rfl dX11_back_28 (fun H locs hP hD hS => ?_)
      exact k_Mo_back_b31 C0 (zpI s0 34 ((zA s0 63) (Int32.toNatClampNeg (16 * v1)))) v1  hA hP hD hS hf _ (lv_sub hl [0, 1] rfl)
    · have hf := zif_t hb_5 hf
      refine lv_iconst (v := (-1)) hx hb dX11_back_16 (by decide) ?_
      cases hf
      exact zewi hx hb hr hk hK hP hD hS dX11_back_17
set_option maxHeartbeats 4000000 in
set_option maxRecDepth 100000 in
theorem c_Mo_back {l : Launch} {dC : Nat → ClassId} {dI : Nat → Nat → Nat} {cy : Nat → ClassId} {sz : Nat} {N : Nat} (o0 : Nat) (a0 : Nat → Nat) (s0 : zSt) (v1 : Int32) {y : Int32 × zSt} (hf : Mo_back N s0 v1 = some y) : Met l yX11_back (.code yX11_back cX11_back 3 (some .int) :: zt) rm_Mo_back (va_Pc [.ref o0, .int v1] (zPre (dC, dI) cy (wd_Mo_back cy o0 a0 (zI s0) (zL s0) (zA s0 33) (zA s0 62) (zA s0 63)) sz)) (zQi y.1 (dC, dI) cy (wd_Mo_back cy o0 a0 (zI y.2) (zL y.2) (zA y.2 33) (zA y.2 62) (zA y.2 63)) (va_A (wd_Mo_back cy o0 a0 (zI s0) (zL s0) (zA s0 33) (zA s0 62) (zA s0 63)) sz)) 0 0 (va_A (wd_Mo_back cy o0 a0 (zI s0) (zL s0) (zA s0 33) (zA s0 62) (zA s0 63)) sz) :=
  zentW (Qw := fun A => (zQi y.1 (dC, dI) cy (wd_Mo_back cy o0 a0 (zI y.2) (zL y.2) (zA y.2 33) (zA y.2 62) (zA y.2 63)) A)) (by decide +kernel) (Nat.le_of_ble_eq_true rfl) (fun p e s m below meth c A C0 hA hP hD hS ls hl => k_Mo_back_b0 C0 s0 v1 hA hP hD hS hf ls hl)
def wd_Mo_about (cy : Nat → ClassId) (o0 : Nat) (a0 : Nat → Nat) (g0 : Nat → Int32) (h0 : Nat → Int64) : va_W := [(o0, .inr (11, fs_Mo a0 g0 h0))]
def rm_Mo_about : Room := { frames := 1, cells := 0, slots := 0, locals := 40 }
set_option maxHeartbeats 4000000 in
set_option maxRecDepth 100000 in
theorem k_Mo_about_b0 {p : Program} {l : Launch} {e : Env} {s : State} {m : MethodId} {args : Array Value} {below : List Frame} {meth : Method} {c : Code} {dC : Nat → ClassId} {dI : Nat → Nat → Nat} {cy : Nat → ClassId} {o0 : Nat} {a0 : Nat → Nat} {N : Nat} {y : Int32} (C0 : zCx p s m args meth c cX11_about 2 (some .int) RX11 (dC, dI) cy) (s0 : zSt) (v1 : Int32) (hP : va_P (dC, dI) vwCl (wd_Mo_about cy o0 a0 (zI s0) (zL s0)) s.heap) (hf : Mo_about_b0 N s0 v1 = some y) (ls : Array Slot) (hl : lv_has ls 2 [(0, .ref o0), (1, .int v1)]) : W p l e rm_Mo_about s m args below meth c s.heap [] 0 0 (MQ below (zSi y) args s 0 0 (fun _ => False)) (F0 m 0 ls []) := by
  obtain ⟨hx, hb, hr, hml, hown, hT, hk, hK⟩ := id C0
  refine lv_iload_n hx hb dX11_about_0 rfl (lv_at hl 1 rfl) ?_
  by_cases hw10 : v1 = 0
  · have hf := zif_t hw10 hf
    refine lv_tableIn (off := 59) (tgt := 60) hx hb dX11_about_1 (by rw [hw10]; decide) (by rw [hw10]; decide) (by rw [hw10]; decide) (by decide) ?_
    refine lv_aload_n hx hb dX11_about_60 rfl (lv_at hl 0 rfl) ?_
    refine zget (v := .int (zI s0 28)) hx hb hown hT hK hP inX11 rfl smX11 0 rfl 28 (by decide) tb_1030 rfl dX11_about_61 ?_
    cases hf
    exact zeri hx hb hr hk dX11_about_64
  · have hf := zif_f hw10 hf
    by_cases hw11 : v1 = 1
    · have hf := zif_t hw11 hf
      refine lv_tableIn (off := 64) (tgt := 65) hx hb dX11_about_1 (by rw [hw11]; decide) (by rw [hw11]; decide) (by rw [hw11]; decide) (by decide) ?_
      refine lv_aload_n hx hb dX11_about_65 rfl (lv_at hl 0 rfl) ?_
      refine zget (v := .int (zI s0 30)) hx hb hown hT hK hP inX11 rfl smX11 0 rfl 30 (by decide) tb_1032 rfl dX11_about_66 ?_
      cases hf
      exact zeri hx hb hr hk dX11_about_69
    · have hf := zif_f hw11 hf
      by_cases hw12 : v1 = 2
      · have hf := zif_t hw12 hf
        refine lv_tableIn (off := 69) (tgt := 70) hx hb dX11_about_1 (by rw [hw12]; decide) (by rw [hw12]; decide) (by rw [hw12]; decide) (by decide) ?_
        refine lv_aload_n hx hb dX11_about_70 rfl (lv_at hl 0 rfl) ?_
        refine zget (v := .int (zI s0 31)) hx hb hown hT hK hP inX11 rfl smX11 0 rfl 31 (by decide) tb_1033 rfl dX11_about_71 ?_
        cases hf
        exact zeri hx hb hr hk dX11_about_74
      · have hf := zif_f hw12 hf
        by_cases hw13 : v1 = 3
        · have hf := zif_t hw13 hf
          refine lv_tableIn (off := 74) (tgt := 75) hx hb dX11_about_1 (by rw [hw13]; decide) (by rw [hw13]; decide) (by rw [hw13]; decide) (by decide) ?_
          refine lv_aload_n hx hb dX11_about_75 rfl (lv_at hl 0 rfl) ?_
          refine zget (v := .int (zI s0 32)) hx hb hown hT hK hP inX11 rfl smX11 0 rfl 32 (by decide) tb_1034 rfl dX11_about_76 ?_
          cases hf
          exact zeri hx hb hr hk dX11_about_79
        · have hf := zif_f hw13 hf
          by_cases hw14 : v1 = 4
          · have hf := zif_t hw14 hf
            refine lv_tableIn (off := 79) (tgt := 80) hx hb dX11_about_1 (by rw [hw14]; decide) (by rw [hw14]; decide) (by rw [hw14]; decide) (by decide) ?_
            refine lv_aload_n hx hb dX11_about_80 rfl (lv_at hl 0 rfl) ?_
            refine zget (v := .int (zI s0 36)) hx hb hown hT hK hP inX11 rfl smX11 0 rfl 36 (by decide) tb_1038 rfl dX11_about_81 ?_
            cases hf
            exact zeri hx hb hr hk dX11_about_84
          · have hf := zif_f hw14 hf
            by_cases hw15 : v1 = 5
            · have hf := zif_t hw15 hf
              refine lv_tableIn (off := 84) (tgt := 85) hx hb dX11_about_1 (by rw [hw15]; decide) (by rw [hw15]; decide) (by rw [hw15]; decide) (by decide) ?_
              refine lv_aload_n hx hb dX11_about_85 rfl (lv_at hl 0 rfl) ?_
              refine zget (v := .int (zI s0 37)) hx hb hown hT hK hP inX11 rfl smX11 0 rfl 37 (by decide) tb_1039 rfl dX11_about_86 ?_
              cases hf
              exact zeri hx hb hr hk dX11_about_89
            · have hf := zif_f hw15 hf
              by_cases hw16 : v1 = 6
              · have hf := zif_t hw16 hf
                refine lv_tableIn (off := 89) (tgt := 90) hx hb dX11_about_1 (by rw [hw16]; decide) (by rw [hw16]; decide) (by rw [hw16]; decide) (by decide) ?_
                refine lv_aload_n hx hb dX11_about_90 rfl (lv_at hl 0 rfl) ?_
                refine zget (v := .int (zI s0 38)) hx hb hown hT hK hP inX11 rfl smX11 0 rfl 38 (by decide) tb_1040 rfl dX11_about_91 ?_
                cases hf
                exact zeri hx hb hr hk dX11_about_94
              · have hf := zif_f hw16 hf
                by_cases hw17 : v1 = 7
                · have hf := zif_t hw17 hf
                  refine lv_tableIn (off := 94) (tgt := 95) hx hb dX11_about_1 (by rw [hw17]; decide) (by rw [hw17]; decide) (by rw [hw17]; decide) (by decide) ?_
                  refine lv_aload_n hx hb dX11_about_95 rfl (lv_at hl 0 rfl) ?_
                  refine zget (v := .int (zI s0 47)) hx hb hown hT hK hP inX11 rfl smX11 0 rfl 47 (by decide) tb_1049 rfl dX11_about_96 ?_
                  cases hf
                  exact zeri hx hb hr hk dX11_about_99
                · have hf := zif_f hw17 hf
                  by_cases hw18 : v1 = 8
                  · have hf := zif_t hw18 hf
                    refine lv_tableIn (off := 99) (tgt := 100) hx hb dX11_about_1 (by rw [hw18]; decide) (by rw [hw18]; decide) (by rw [hw18]; decide) (by decide) ?_
                    refine lv_aload_n hx hb dX11_about_100 rfl (lv_at hl 0 rfl) ?_
                    refine zget (v := .int (zI s0 48)) hx hb hown hT hK hP inX11 rfl smX11 0 rfl 48 (by decide) tb_1050 rfl dX11_about_101 ?_
                    cases hf
                    exact zeri hx hb hr hk dX11_about_104
                  · have hf := zif_f hw18 hf
                    by_cases hw19 : v1 = 9
                    · have hf := zif_t hw19 hf
                      refine lv_tableIn (off := 104) (tgt := 105) hx hb dX11_about_1 (by rw [hw19]; decide) (by rw [hw19]; decide) (by rw [hw19]; decide) (by decide) ?_
                      refine lv_aload_n hx hb dX11_about_105 rfl (lv_at hl 0 rfl) ?_
                      refine zget (v := .int (zI s0 1)) hx hb hown hT hK hP inX11 rfl smX11 0 rfl 1 (by decide) tb_1003 rfl dX11_about_106 ?_
                      cases hf
                      exact zeri hx hb hr hk dX11_about_109
                    · have hf := zif_f hw19 hf
                      by_cases hw110 : v1 = 10
                      · have hf := zif_t hw110 hf
                        refine lv_tableIn (off := 109) (tgt := 110) hx hb dX11_about_1 (by rw [hw110]; decide) (by rw [hw110]; decide) (by rw [hw110]; decide) (by decide) ?_
                        refine lv_aload_n hx hb dX11_about_110 rfl (lv_at hl 0 rfl) ?_
                        refine zget (v := .int (zI s0 58)) hx hb hown hT hK hP inX11 rfl smX11 0 rfl 58 (by decide) tb_1060 rfl dX11_about_111 ?_
                        cases hf
                        exact zeri hx hb hr hk dX11_about_114
                      · have hf := zif_f hw110 hf
                        refine lv_tableOut (tgt := 115) hx hb dX11_about_1 (zsw 10 (by decide) (fun k hk => ?_)) (by decide) ?_
                        · rcases (show k = 0 ∨ k = 1 ∨ k = 2 ∨ k = 3 ∨ k = 4 ∨ k = 5 ∨ k = 6 ∨ k = 7 ∨ k = 8 ∨ k = 9 ∨ k = 10 by omega) with rfl | rfl | rfl | rfl | rfl | rfl | rfl | rfl | rfl | rfl | rfl
                          · exact hw10
                          · exact hw11
                          · exact hw12
                          · exact hw13
                          · exact hw14
                          · exact hw15
                          · exact hw16
                          · exact hw17
                          · exact hw18
                          · exact hw19
                          · exact hw110
                        · refine lv_iconst (v := (-1)) hx hb dX11_about_115 (by decide) ?_
                          cases hf
                          exact zeri hx hb hr hk dX11_about_116
set_option maxHeartbeats 4000000 in
set_option maxRecDepth 100000 in
theorem c_Mo_about {l : Launch} {dC : Nat → ClassId} {dI : Nat → Nat → Nat} {cy : Nat → ClassId} {N : Nat} (o0 : Nat) (a0 : Nat → Nat) (s0 : zSt) (v1 : Int32) {y : Int32} (hf : Mo_about N s0 v1 = some y) : Met l yX11_about (.code yX11_about cX11_about 2 (some .int) :: zt) rm_Mo_about (va_Pc [.ref o0, .int v1] (zRd (dC, dI) cy (wd_Mo_about cy o0 a0 (zI s0) (zL s0)))) (zSi y) 0 0 (fun _ => False) :=
  zentR (by decide +kernel) (Nat.le_of_ble_eq_true rfl) (fun p e s m below meth c C0 hP ls hl => k_Mo_about_b0 C0 s0 v1 hP hf ls hl)
