def wd_Arrays_fill (cy : Nat → ClassId) (o0 n0 : Nat) (f0 : Nat → Int32) : va_W := [(o0, .inl (cy 0, n0, .inl f0))]
def rm_Arrays_fill : Room := { frames := 1, cells := 0, slots := 0, locals := 40 }
set_option maxHeartbeats 4000000 in
set_option maxRecDepth 100000 in
theorem k_Arrays_fill_b5 {p : Program} {l : Launch} {e : Env} {s : State} {m : MethodId} {args : Array Value} {below : List Frame} {meth : Method} {c : Code} {dC : Nat → ClassId} {dI : Nat → Nat → Nat} {cy : Nat → ClassId} {A : Nat → Prop} {o0 : Nat} {N : Nat} {kh5 : (Nat → Int32) → Int32 → Option ((Nat → Int32))} {y : (Nat → Int32)} (C0 : zCx p s m args meth c cJ7_fill_53178 4 none RJ7 (dC, dI) cy) (n0 : Nat) (f0 : Nat → Int32) (v1 : Int32) (v2 : Int32) (v3 : Int32) (hk5 : ∀ (f0 : (Nat → Int32)) (v2 : Int32) {H : Heap} {locs : List Loc} (_ : va_P (dC, dI) vwCl (wd_Arrays_fill cy o0 n0 f0) H) (_ : va_D A (wd_Arrays_fill cy o0 n0 f0)) (_ : va_S A s.heap H locs) (_ : kh5 f0 v2 = some y) (ls : Array Slot) (_ : lv_has ls 4 [(0, .ref o0), (1, .int v1), (2, .int v2), (3, .int v3)]), W p l e rm_Arrays_fill s m args below meth c H locs 0 0 (MQ below (zQv (dC, dI) cy (wd_Arrays_fill cy o0 n0 y) A) args s 0 0 A) (F0 m 5 ls [])) (hA : ∀ q, s.heap.size ≤ q → A q) {H : Heap} {locs : List Loc} (hP : va_P (dC, dI) vwCl (wd_Arrays_fill cy o0 n0 f0) H) (hD : va_D A (wd_Arrays_fill cy o0 n0 f0)) (hS : va_S A s.heap H locs) (hf : Arrays_fill_b5 N kh5 n0 f0 v1 v2 v3 = some y) (ls : Array Slot) (hl : lv_has ls 4 [(0, .ref o0), (1, .int v1), (2, .int v2), (3, .int v3)]) : W p l e rm_Arrays_fill s m args below meth c H locs 0 0 (MQ below (zQv (dC, dI) cy (wd_Arrays_fill cy o0 n0 y) A) args s 0 0 A) (F0 m 5 ls []) := by
  obtain ⟨hx, hb, hr, hml, hown, hT, hk, hK⟩ := id C0
  refine lv_iload_n hx hb dJ7_fill_53178_5 rfl (lv_at hl 2 rfl) ?_
  refine lv_iload_n hx hb dJ7_fill_53178_6 rfl (lv_at hl 3 rfl) ?_
  refine lv_icmp_ge (tgt := 20) hx hb dJ7_fill_53178_7 (by decide) (fun hb_1 => ?_) (fun hb_1 => ?_)
  · have hf := zif_t hb_1 hf
    cases hf
    exact zewv hx hb hr hk hK hP hD hS dJ7_fill_53178_20
  · have hf := zif_f hb_1 hf
    refine lv_aload_n hx hb dJ7_fill_53178_10 rfl (lv_at hl 0 rfl) ?_
    refine lv_iload_n hx hb dJ7_fill_53178_11 rfl (lv_at hl 2 rfl) ?_
    refine lv_iload_n hx hb dJ7_fill_53178_12 rfl (lv_at hl 1 rfl) ?_
    obtain ⟨hi2, hf⟩ := zck_some hf
    refine zast (ws' := (wd_Arrays_fill cy o0 n0 (upd f0 (Int32.toNatClampNeg v2) v1))) hx hb hK hP hD hS 0 0 rfl rfl hi2 rfl dJ7_fill_53178_13 (fun H locs hP hD hS => ?_)
    refine lv_iinc (v := v2 + 1) (lv' := [(2, .int (v2 + 1)), (0, .ref o0), (1, .int v1), (3, .int v3)]) hx hb dJ7_fill_53178_14 hl (k := 2) rfl rfl (by decide) rfl (fun ls hl => ?_)
    refine lv_goto (tgt := 5) hx hb dJ7_fill_53178_17 (by decide) ?_
    exact hk5 (upd f0 (Int32.toNatClampNeg v2) v1) (v2 + 1) hP hD hS hf _ (lv_sub hl [1, 2, 0, 3] rfl)
set_option maxHeartbeats 4000000 in
set_option maxRecDepth 100000 in
theorem k_Arrays_fill_h5 {p : Program} {l : Launch} {e : Env} {s : State} {m : MethodId} {args : Array Value} {below : List Frame} {meth : Method} {c : Code} {dC : Nat → ClassId} {dI : Nat → Nat → Nat} {cy : Nat → ClassId} {A : Nat → Prop} {o0 : Nat} {N : Nat} {y : (Nat → Int32)} (C0 : zCx p s m args meth c cJ7_fill_53178 4 none RJ7 (dC, dI) cy) (n0 : Nat) (v1 : Int32) (v3 : Int32) (hA : ∀ q, s.heap.size ≤ q → A q) : ∀ (n : Nat) (f0 : (Nat → Int32)) (v2 : Int32) {H : Heap} {locs : List Loc} (hP : va_P (dC, dI) vwCl (wd_Arrays_fill cy o0 n0 f0) H) (hD : va_D A (wd_Arrays_fill cy o0 n0 f0)) (hS : va_S A s.heap H locs) (hf : Arrays_fill_h5 N n0 v1 v3 n f0 v2 = some y) (ls : Array Slot) (hl : lv_has ls 4 [(0, .ref o0), (1, .int v1), (2, .int v2), (3, .int v3)]), W p l e rm_Arrays_fill s m args below meth c H locs 0 0 (MQ below (zQv (dC, dI) cy (wd_Arrays_fill cy o0 n0 y) A) args s 0 0 A) (F0 m 5 ls []) := by
  intro n
  induction n with
  | zero => intro f0 v2 H locs hP hD hS hf; cases hf
  | succ n ih =>
    intro f0 v2 H locs hP hD hS hf ls hl
    have hf : Arrays_fill_b5 N (Arrays_fill_h5 N n0 v1 v3 n) n0 f0 v1 v2 v3 = some y := hf
    exact k_Arrays_fill_b5 C0 n0 f0 v1 v2 v3 (fun f0 v2 _ _ hP hD hS hf ls hl => ih f0 v2 hP hD hS hf ls hl) hA hP hD hS hf ls hl
set_option maxHeartbeats 4000000 in
set_option maxRecDepth 100000 in
theorem k_Arrays_fill_b0 {p : Program} {l : Launch} {e : Env} {s : State} {m : MethodId} {args : Array Value} {below : List Frame} {meth : Method} {c : Code} {dC : Nat → ClassId} {dI : Nat → Nat → Nat} {cy : Nat → ClassId} {A : Nat → Prop} {o0 : Nat} {N : Nat} {y : (Nat → Int32)} (C0 : zCx p s m args meth c cJ7_fill_53178 4 none RJ7 (dC, dI) cy) (n0 : Nat) (f0 : Nat → Int32) (v1 : Int32) (hA : ∀ q, s.heap.size ≤ q → A q) {H : Heap} {locs : List Loc} (hP : va_P (dC, dI) vwCl (wd_Arrays_fill cy o0 n0 f0) H) (hD : va_D A (wd_Arrays_fill cy o0 n0 f0)) (hS : va_S A s.heap H locs) (hf : Arrays_fill_b0 N n0 f0 v1 = some y) (ls : Array Slot) (hl : lv_has ls 4 [(0, .ref o0), (1, .int v1)]) : W p l e rm_Arrays_fill s m args below meth c H locs 0 0 (MQ below (zQv (dC, dI) cy (wd_Arrays_fill cy o0 n0 y) A) args s 0 0 A) (F0 m 0 ls []) := by
  obtain ⟨hx, hb, hr, hml, hown, hT, hk, hK⟩ := id C0
  refine lv_iconst (v := 0) hx hb dJ7_fill_53178_0 (by decide) ?_
  refine lv_istore_n (lv' := [(2, .int 0), (0, .ref o0), (1, .int v1)]) hx hb dJ7_fill_53178_1 rfl hl (by decide) rfl (fun ls hl => ?_)
  refine lv_aload_n hx hb dJ7_fill_53178_2 rfl (lv_at hl 1 rfl) ?_
  refine va_alen (v := Int32.ofNat n0) hx hb hK.1 hP 0 0 rfl rfl rfl dJ7_fill_53178_3 ?_
  refine lv_istore_n (lv' := [(3, .int (Int32.ofNat n0)), (2, .int 0), (0, .ref o0), (1, .int v1)]) hx hb dJ7_fill_53178_4 rfl hl (by decide) rfl (fun ls hl => ?_)
  exact k_Arrays_fill_h5 C0 n0 v1 (Int32.ofNat n0)  hA N f0 0 hP hD hS hf _ (lv_sub hl [2, 3, 1, 0] rfl)
set_option maxHeartbeats 4000000 in
set_option maxRecDepth 100000 in
theorem c_Arrays_fill {l : Launch} {dC : Nat → ClassId} {dI : Nat → Nat → Nat} {cy : Nat → ClassId} {sz : Nat} {N : Nat} (o0 n0 : Nat) (f0 : Nat → Int32) (v1 : Int32) {y : (Nat → Int32)} (hf : Arrays_fill N n0 f0 v1 = some y) : Met l yJ7_fill_53178 (.code yJ7_fill_53178 cJ7_fill_53178 4 none :: zt) rm_Arrays_fill (va_Pc [.ref o0, .int v1] (zPre (dC, dI) cy (wd_Arrays_fill cy o0 n0 f0) sz)) (zQv (dC, dI) cy (wd_Arrays_fill cy o0 n0 y) (va_A (wd_Arrays_fill cy o0 n0 f0) sz)) 0 0 (va_A (wd_Arrays_fill cy o0 n0 f0) sz) :=
  zentW (Qw := fun A => (zQv (dC, dI) cy (wd_Arrays_fill cy o0 n0 y) A)) (by decide +kernel) (Nat.le_of_ble_eq_true rfl) (fun p e s m below meth c A C0 hA hP hD hS ls hl => k_Arrays_fill_b0 C0 n0 f0 v1 hA hP hD hS hf ls hl)
def wd_Entries_isSound (cy : Nat → ClassId) (o0 : Nat) (a0 : Nat → Nat) (g0 : Nat → Int32) (h0 : Nat → Int64) (x0_2 : Nat → Int32) : va_W := [(o0, .inr (4, fs_Entries a0 g0 h0)), (a0 2, .inl (cy 0, 40, .inl x0_2))]
def rm_Entries_isSound : Room := { frames := 1, cells := 0, slots := 0, locals := 40 }
set_option maxHeartbeats 4000000 in
set_option maxRecDepth 100000 in
theorem k_Entries_isSound_b0 {p : Program} {l : Launch} {e : Env} {s : State} {m : MethodId} {args : Array Value} {below : List Frame} {meth : Method} {c : Code} {dC : Nat → ClassId} {dI : Nat → Nat → Nat} {cy : Nat → ClassId} {o0 : Nat} {a0 : Nat → Nat} {N : Nat} {y : Int32} (C0 : zCx p s m args meth c cX4_isSound 2 (some .boolean) RX4 (dC, dI) cy) (s0 : zSt) (v1 : Int32) (hP : va_P (dC, dI) vwCl (wd_Entries_isSound cy o0 a0 (zI s0) (zL s0) (zA s0 2)) s.heap) (hf : Entries_isSound_b0 N s0 v1 = some y) (ls : Array Slot) (hl : lv_has ls 2 [(0, .ref o0), (1, .int v1)]) : W p l e rm_Entries_isSound s m args below meth c s.heap [] 0 0 (MQ below (zSi y) args s 0 0 (fun _ => False)) (F0 m 0 ls []) := by
  obtain ⟨hx, hb, hr, hml, hown, hT, hk, hK⟩ := id C0
  refine lv_aload_n hx hb dX4_isSound_0 rfl (lv_at hl 0 rfl) ?_
  refine zget (v := .ref (a0 2)) hx hb hown hT hK hP inX4 rfl smX4 0 rfl 2 (by decide) tb_213 rfl dX4_isSound_1 ?_
  refine lv_iload_n hx hb dX4_isSound_4 rfl (lv_at hl 1 rfl) ?_
  obtain ⟨hi1, hf⟩ := zck_some hf
  refine va_iald hx hb hK.1 hP 1 0 rfl rfl hi1 dX4_isSound_5 ?_
  refine lv_iconst (v := (-1)) hx hb dX4_isSound_6 (by decide) ?_
  refine lv_icmp_eq (tgt := 14) hx hb dX4_isSound_7 (by decide) (fun hb_2 => ?_) (fun hb_2 => ?_)
  · have hf := zif_t hb_2 hf
    refine lv_iconst (v := 0) hx hb dX4_isSound_14 (by decide) ?_
    cases hf
    exact zerz hx hb hr hk (Or.inl rfl) dX4_isSound_15
  · have hf := zif_f hb_2 hf
    refine lv_iconst (v := 1) hx hb dX4_isSound_10 (by decide) ?_
    refine lv_goto (tgt := 15) hx hb dX4_isSound_11 (by decide) ?_
    cases hf
    exact zerz hx hb hr hk (Or.inr rfl) dX4_isSound_15
set_option maxHeartbeats 4000000 in
set_option maxRecDepth 100000 in
theorem c_Entries_isSound {l : Launch} {dC : Nat → ClassId} {dI : Nat → Nat → Nat} {cy : Nat → ClassId} {N : Nat} (o0 : Nat) (a0 : Nat → Nat) (s0 : zSt) (v1 : Int32) {y : Int32} (hf : Entries_isSound N s0 v1 = some y) : Met l yX4_isSound (.code yX4_isSound cX4_isSound 2 (some .boolean) :: zt) rm_Entries_isSound (va_Pc [.ref o0, .int v1] (zRd (dC, dI) cy (wd_Entries_isSound cy o0 a0 (zI s0) (zL s0) (zA s0 2)))) (zSi y) 0 0 (fun _ => False) :=
  zentR (by decide +kernel) (Nat.le_of_ble_eq_true rfl) (fun p e s m below meth c C0 hP ls hl => k_Entries_isSound_b0 C0 s0 v1 hP hf ls hl)
def wd_Entries_counts (cy : Nat → ClassId) (o0 : Nat) (a0 : Nat → Nat) (g0 : Nat → Int32) (h0 : Nat → Int64) (x0_6 : Nat → Int32) (x0_7 : Nat → Int32) : va_W := [(o0, .inr (4, fs_Entries a0 g0 h0)), (a0 6, .inl (cy 0, 40, .inl x0_6)), (a0 7, .inl (cy 0, 40, .inl x0_7))]
def rm_Entries_counts : Room := { frames := 1, cells := 0, slots := 0, locals := 40 }
set_option maxHeartbeats 4000000 in
set_option maxRecDepth 100000 in
theorem k_Entries_counts_b30 {p : Program} {l : Launch} {e : Env} {s : State} {m : MethodId} {args : Array Value} {below : List Frame} {meth : Method} {c : Code} {dC : Nat → ClassId} {dI : Nat → Nat → Nat} {cy : Nat → ClassId} {o0 : Nat} {a0 : Nat → Nat} {N : Nat} {y : Int32} (C0 : zCx p s m args meth c cX4_counts 3 (some .boolean) RX4 (dC, dI) cy) (s0 : zSt) (hP : va_P (dC, dI) vwCl (wd_Entries_counts cy o0 a0 (zI s0) (zL s0) (zA s0 6) (zA s0 7)) s.heap) (hf : Entries_counts_b30 N s0 = some y) (ls : Array Slot) (hl : lv_has ls 3 []) : W p l e rm_Entries_counts s m args below meth c s.heap [] 0 0 (MQ below (zSi y) args s 0 0 (fun _ => False)) (F0 m 30 ls []) := by
  obtain ⟨hx, hb, hr, hml, hown, hT, hk, hK⟩ := id C0
  refine lv_iconst (v := 1) hx hb dX4_counts_30 (by decide) ?_
  refine lv_goto (tgt := 35) hx hb dX4_counts_31 (by decide) ?_
  cases hf
  exact zerz hx hb hr hk (Or.inr rfl) dX4_counts_35
set_option maxHeartbeats 4000000 in
set_option maxRecDepth 100000 in
theorem k_Entries_counts_b0 {p : Program} {l : Launch} {e : Env} {s : State} {m : MethodId} {args : Array Value} {below : List Frame} {meth : Method} {c : Code} {dC : Nat → ClassId} {dI : Nat → Nat → Nat} {cy : Nat → ClassId} {o0 : Nat} {a0 : Nat → Nat} {N : Nat} {y : Int32} (C0 : zCx p s m args meth c cX4_counts 3 (some .boolean) RX4 (dC, dI) cy) (s0 : zSt) (v1 : Int32) (v2 : Int32) (hP : va_P (dC, dI) vwCl (wd_Entries_counts cy o0 a0 (zI s0) (zL s0) (zA s0 6) (zA s0 7)) s.heap) (hf : Entries_counts_b0 N s0 v1 v2 = some y) (ls : Array Slot) (hl : lv_has ls 3 [(0, .ref o0), (1, .int v1), (2, .int v2)]) : W p l e rm_Entries_counts s m args below meth c s.heap [] 0 0 (MQ below (zSi y) args s 0 0 (fun _ => False)) (F0 m 0 ls []) := by
  obtain ⟨hx, hb, hr, hml, hown, hT, hk, hK⟩ := id C0
  refine lv_aload_n hx hb dX4_counts_0 rfl (lv_at hl 0 rfl) ?_
  refine zget (v := .ref (a0 6)) hx hb hown hT hK hP inX4 rfl smX4 0 rfl 6 (by decide) tb_226 rfl dX4_counts_1 ?_
  refine lv_iload_n hx hb dX4_counts_4 rfl (lv_at hl 1 rfl) ?_
  obtain ⟨hi1, hf⟩ := zck_some hf
  refine va_iald hx hb hK.1 hP 1 0 rfl rfl hi1 dX4_counts_5 ?_
  refine lv_iload_n hx hb dX4_counts_6 rfl (lv_at hl 2 rfl) ?_
  refine lv_icmp_gt (tgt := 34) hx hb dX4_counts_7 (by decide) (fun hb_2 => ?_) (fun hb_2 => ?_)
  · have hf := zif_t hb_2 hf
    refine lv_iconst (v := 0) hx hb dX4_counts_34 (by decide) ?_
    cases hf
    exact zerz hx hb hr hk (Or.inl rfl) dX4_counts_35
  · have hf := zif_f hb_2 hf
    refine lv_aload_n hx hb dX4_counts_10 rfl (lv_at hl 0 rfl) ?_
    refine zget (v := .ref (a0 7)) hx hb hown hT hK hP inX4 rfl smX4 0 rfl 7 (by decide) tb_227 rfl dX4_counts_11 ?_
    refine lv_iload_n hx hb dX4_counts_14 rfl (lv_at hl 1 rfl) ?_
    obtain ⟨hi3, hf⟩ := zck_some hf
    refine va_iald hx hb hK.1 hP 2 0 rfl rfl hi3 dX4_counts_15 ?_
    refine lv_iconst (v := (-1)) hx hb dX4_counts_16 (by decide) ?_
    refine lv_icmp_eq (tgt := 30) hx hb dX4_counts_17 (by decide) (fun hb_4 => ?_) (fun hb_4 => ?_)
    · have hf := zif_t hb_4 hf
      exact k_Entries_counts_b30 C0 s0  hP hf _ (lv_sub hl [] rfl)
    · have hf := zif_f hb_4 hf
      refine lv_aload_n hx hb dX4_counts_20 rfl (lv_at hl 0 rfl) ?_
      refine zget (v := .ref (a0 7)) hx hb hown hT hK hP inX4 rfl smX4 0 rfl 7 (by decide) tb_227 rfl dX4_counts_21 ?_
      refine lv_iload_n hx hb dX4_counts_24 rfl (lv_at hl 1 rfl) ?_
      obtain ⟨hi5, hf⟩ := zck_some hf
      refine va_iald hx hb hK.1 hP 2 0 rfl rfl hi5 dX4_counts_25 ?_
      refine lv_iload_n hx hb dX4_counts_26 rfl (lv_at hl 2 rfl) ?_
      refine lv_icmp_le (tgt := 34) hx hb dX4_counts_27 (by decide) (fun hb_6 => ?_) (fun hb_6 => ?_)
      · have hf := zif_t hb_6 hf
        refine lv_iconst (v := 0) hx hb dX4_counts_34 (by decide) ?_
        cases hf
        exact zerz hx hb hr hk (Or.inl rfl) dX4_counts_35
      · have hf := zif_f hb_6 hf
        exact k_Entries_counts_b30 C0 s0  hP hf _ (lv_sub hl [] rfl)
set_option maxHeartbeats 4000000 in
set_option maxRecDepth 100000 in
theorem c_Entries_counts {l : Launch} {dC : Nat → ClassId} {dI : Nat → Nat → Nat} {cy : Nat → ClassId} {N : Nat} (o0 : Nat) (a0 : Nat → Nat) (s0 : zSt) (v1 : Int32) (v2 : Int32) {y : Int32} (hf : Entries_counts N s0 v1 v2 = some y) : Met l yX4_counts (.code yX4_counts cX4_counts 3 (some .boolean) :: zt) rm_Entries_counts (va_Pc [.ref o0, .int v1, .int v2] (zRd (dC, dI) cy (wd_Entries_counts cy o0 a0 (zI s0) (zL s0) (zA s0 6) (zA s0 7)))) (zSi y) 0 0 (fun _ => False) :=
  zentR (by decide +kernel) (Nat.le_of_ble_eq_true rfl) (fun p e s m below meth c C0 hP ls hl => k_Entries_counts_b0 C0 s0 v1 v2 hP hf ls hl)
def wd_Bounds_has (cy : Nat → ClassId) (o0 : Nat) (a0 : Nat → Nat) (g0 : Nat → Int32) (h0 : Nat → Int64) (x0_1 : Nat → Int32) : va_W := [(o0, .inr (0, fs_Bounds a0 g0 h0)), (a0 1, .inl (cy 0, 4, .inl x0_1))]
def rm_Bounds_has : Room := { frames := 1, cells := 0, slots := 0, locals := 40 }
set_option maxHeartbeats 4000000 in
set_option maxRecDepth 100000 in
theorem k_Bounds_has_b0 {p : Program} {l : Launch} {e : Env} {s : State} {m : MethodId} {args : Array Value} {below : List Frame} {meth : Method} {c : Code} {dC : Nat → ClassId} {dI : Nat → Nat → Nat} {cy : Nat → ClassId} {o0 : Nat} {a0 : Nat → Nat} {N : Nat} {y : Int32} (C0 : zCx p s m args meth c cX0_has 3 (some .boolean) RX0 (dC, dI) cy) (s0 : zSt) (v1 : Int32) (v2 : Int32) (hP : va_P (dC, dI) vwCl (wd_Bounds_has cy o0 a0 (zI s0) (zL s0) (zA s0 1)) s.heap) (hf : Bounds_has_b0 N s0 v1 v2 = some y) (ls : Array Slot) (hl : lv_has ls 3 [(0, .ref o0), (1, .int v1), (2, .int v2)]) : W p l e rm_Bounds_has s m args below meth c s.heap [] 0 0 (MQ below (zSi y) args s 0 0 (fun _ => False)) (F0 m 0 ls []) := by
  obtain ⟨hx, hb, hr, hml, hown, hT, hk, hK⟩ := id C0
  refine lv_aload_n hx hb dX0_has_0 rfl (lv_at hl 0 rfl) ?_
  refine zget (v := .ref (a0 1)) hx hb hown hT hK hP inX0 rfl smX0 0 rfl 1 (by decide) tb_254 rfl dX0_has_1 ?_
  refine lv_iload_n hx hb dX0_has_4 rfl (lv_at hl 1 rfl) ?_
  obtain ⟨hi1, hf⟩ := zck_some hf
  refine va_iald hx hb hK.1 hP 1 0 rfl rfl hi1 dX0_has_5 ?_
  refine lv_iload_n hx hb dX0_has_6 rfl (lv_at hl 2 rfl) ?_
  refine lv_ishr hx hb dX0_has_7 ?_
  refine lv_iconst (v := 1) hx hb dX0_has_8 (by decide) ?_
  refine lv_iand hx hb dX0_has_9 ?_
  refine lv_iconst (v := 1) hx hb dX0_has_10 (by decide) ?_
  refine lv_icmp_ne (tgt := 18) hx hb dX0_has_11 (by decide) (fun hb_2 => ?_) (fun hb_2 => ?_)
  · have hf := zif_f hb_2 hf
    refine lv_iconst (v := 0) hx hb dX0_has_18 (by decide) ?_
    cases hf
    exact zerz hx hb hr hk (Or.inl rfl) dX0_has_19
  · have hf := zif_t hb_2 hf
    refine lv_iconst (v := 1) hx hb dX0_has_14 (by decide) ?_
    refine lv_goto (tgt := 19) hx hb dX0_has_15 (by decide) ?_
    cases hf
    exact zerz hx hb hr hk (Or.inr rfl) dX0_has_19
set_option maxHeartbeats 4000000 in
set_option maxRecDepth 100000 in
theorem c_Bounds_has {l : Launch} {dC : Nat → ClassId} {dI : Nat → Nat → Nat} {cy : Nat → ClassId} {N : Nat} (o0 : Nat) (a0 : Nat → Nat) (s0 : zSt) (v1 : Int32) (v2 : Int32) {y : Int32} (hf : Bounds_has N s0 v1 v2 = some y) : Met l yX0_has (.code yX0_has cX0_has 3 (some .boolean) :: zt) rm_Bounds_has (va_Pc [.ref o0, .int v1, .int v2] (zRd (dC, dI) cy (wd_Bounds_has cy o0 a0 (zI s0) (zL s0) (zA s0 1)))) (zSi y) 0 0 (fun _ => False) :=
  zentR (by decide +kernel) (Nat.le_of_ble_eq_true rfl) (fun p e s m below meth c C0 hP ls hl => k_Bounds_has_b0 C0 s0 v1 v2 hP hf ls hl)
def wd_Math_max (cy : Nat → ClassId) : va_W := []
def rm_Math_max : Room := { frames := 1, cells := 0, slots := 0, locals := 40 }
set_option maxHeartbeats 4000000 in
set_option maxRecDepth 100000 in
theorem k_Math_max_b0 {p : Program} {l : Launch} {e : Env} {s : State} {m : MethodId} {args : Array Value} {below : List Frame} {meth : Method} {c : Code} {dC : Nat → ClassId} {dI : Nat → Nat → Nat} {cy : Nat → ClassId} {N : Nat} {y : Int32} (C0 : zCx p s m args meth c cJ9_max_7cf53 2 (some .int) RJ9 (dC, dI) cy) (v0 : Int32) (v1 : Int32) (hP : va_P (dC, dI) vwCl (wd_Math_max cy) s.heap) (hf : Math_max_b0 N v0 v1 = some y) (ls : Array Slot) (hl : lv_has ls 2 [(0, .int v0), (1, .int v1)]) : W p l e rm_Math_max s m args below meth c s.heap [] 0 0 (MQ below (zSi y) args s 0 0 (fun _ => False)) (F0 m 0 ls []) := by
  obtain ⟨hx, hb, hr, hml, hown, hT, hk, hK⟩ := id C0
  refine lv_iload_n hx hb dJ9_max_7cf53_0 rfl (lv_at hl 0 rfl) ?_
  refine lv_iload_n hx hb dJ9_max_7cf53_1 rfl (lv_at hl 1 rfl) ?_
  refine lv_icmp_lt (tgt := 9) hx hb dJ9_max_7cf53_2 (by decide) (fun hb_1 => ?_) (fun hb_1 => ?_)
  · have hf := zif_t hb_1 hf
    refine lv_iload_n hx hb dJ9_max_7cf53_9 rfl (lv_at hl 1 rfl) ?_
    cases hf
    exact zeri hx hb hr hk dJ9_max_7cf53_10
  · have hf := zif_f hb_1 hf
    refine lv_iload_n hx hb dJ9_max_7cf53_5 rfl (lv_at hl 0 rfl) ?_
    refine lv_goto (tgt := 10) hx hb dJ9_max_7cf53_6 (by decide) ?_
    cases hf
    exact zeri hx hb hr hk dJ9_max_7cf53_10
set_option maxHeartbeats 4000000 in
set_option maxRecDepth 100000 in
theorem c_Math_max {l : Launch} {dC : Nat → ClassId} {dI : Nat → Nat → Nat} {cy : Nat → ClassId} {N : Nat} (v0 : Int32) (v1 : Int32) {y : Int32} (hf : Math_max N v0 v1 = some y) : Met l yJ9_max_7cf53 (.code yJ9_max_7cf53 cJ9_max_7cf53 2 (some .int) :: zt) rm_Math_max (va_Pc [.int v0, .int v1] (zRd (dC, dI) cy (wd_Math_max cy))) (zSi y) 0 0 (fun _ => False) :=
  zentR (by decide +kernel) (Nat.le_of_ble_eq_true rfl) (fun p e s m below meth c C0 hP ls hl => k_Math_max_b0 C0 v0 v1 hP hf ls hl)
def wd_Math_min (cy : Nat → ClassId) : va_W := []
def rm_Math_min : Room := { frames := 1, cells := 0, slots := 0, locals := 40 }
set_option maxHeartbeats 4000000 in
set_option maxRecDepth 100000 in
theorem k_Math_min_b0 {p : Program} {l : Launch} {e : Env} {s : State} {m : MethodId} {args : Array Value} {below : List Frame} {meth : Method} {c : Code} {dC : Nat → ClassId} {dI : Nat → Nat → Nat} {cy : Nat → ClassId} {N : Nat} {y : Int32} (C0 : zCx p s m args meth c cJ9_min_7cf53 2 (some .int) RJ9 (dC, dI) cy) (v0 : Int32) (v1 : Int32) (hP : va_P (dC, dI) vwCl (wd_Math_min cy) s.heap) (hf : Math_min_b0 N v0 v1 = some y) (ls : Array Slot) (hl : lv_has ls 2 [(0, .int v0), (1, .int v1)]) : W p l e rm_Math_min s m args below meth c s.heap [] 0 0 (MQ below (zSi y) args s 0 0 (fun _ => False)) (F0 m 0 ls []) := by
  obtain ⟨hx, hb, hr, hml, hown, hT, hk, hK⟩ := id C0
  refine lv_iload_n hx hb dJ9_min_7cf53_0 rfl (lv_at hl 0 rfl) ?_
  refine lv_iload_n hx hb dJ9_min_7cf53_1 rfl (lv_at hl 1 rfl) ?_
  refine lv_icmp_gt (tgt := 9) hx hb dJ9_min_7cf53_2 (by decide) (fun hb_1 => ?_) (fun hb_1 => ?_)
  · have hf := zif_t hb_1 hf
    refine lv_iload_n hx hb dJ9_min_7cf53_9 rfl (lv_at hl 1 rfl) ?_
    cases hf
    exact zeri hx hb hr hk dJ9_min_7cf53_10
  · have hf := zif_f hb_1 hf
    refine lv_iload_n hx hb dJ9_min_7cf53_5 rfl (lv_at hl 0 rfl) ?_
    refine lv_goto (tgt := 10) hx hb dJ9_min_7cf53_6 (by decide) ?_
    cases hf
    exact zeri hx hb hr hk dJ9_min_7cf53_10
set_option maxHeartbeats 4000000 in
set_option maxRecDepth 100000 in
theorem c_Math_min {l : Launch} {dC : Nat → ClassId} {dI : Nat → Nat → Nat} {cy : Nat → ClassId} {N : Nat} (v0 : Int32) (v1 : Int32) {y : Int32} (hf : Math_min N v0 v1 = some y) : Met l yJ9_min_7cf53 (.code yJ9_min_7cf53 cJ9_min_7cf53 2 (some .int) :: zt) rm_Math_min (va_Pc [.int v0, .int v1] (zRd (dC, dI) cy (wd_Math_min cy))) (zSi y) 0 0 (fun _ => False) :=
  zentR (by decide +kernel) (Nat.le_of_ble_eq_true rfl) (fun p e s m below meth c C0 hP ls hl => k_Math_min_b0 C0 v0 v1 hP hf ls hl)
def wd_Bounds_narrow (cy : Nat → ClassId) (o0 : Nat) (a0 : Nat → Nat) (g0 : Nat → Int32) (h0 : Nat → Int64) (x0_1 : Nat → Int32) (x0_3 : Nat → Int32) (x0_4 : Nat → Int32) (x0_5 : Nat → Int32) (o1 : Nat) (a1 : Nat → Nat) (g1 : Nat → Int32) (h1 : Nat → Int64) (x1_2 : Nat → Int32) (x1_3 : Nat → Int32) (x1_4 : Nat → Int32) (x1_5 : Nat → Int32) : va_W := [(o0, .inr (0, fs_Bounds a0 g0 h0)), (a0 1, .inl (cy 0, 4, .inl x0_1)), (a0 3, .inl (cy 0, 4, .inl x0_3)), (a0 4, .inl (cy 0, 48, .inl x0_4)), (a0 5, .inl (cy 0, 48, .inl x0_5)), (o1, .inr (4, fs_Entries a1 g1 h1)), (a1 2, .inl (cy 0, 40, .inl x1_2)), (a1 3, .inl (cy 0, 40, .inl x1_3)), (a1 4, .inl (cy 0, 40, .inl x1_4)), (a1 5, .inl (cy 0, 40, .inl x1_5))]
def rm_Bounds_narrow : Room := { frames := 2, cells := 0, slots := 0, locals := 62 }
theorem rm_ok_Bounds_narrow_Bounds_has : rm_Bounds_has.cells = 0 ∧ rm_Bounds_has.slots = 0 ∧ rm_Bounds_has.frames + 1 ≤ rm_Bounds_narrow.frames ∧ 8 + (3 + 11) + rm_Bounds_has.locals ≤ rm_Bounds_narrow.locals := by decide
theorem rm_ok_Bounds_narrow_Math_max : rm_Math_max.cells = 0 ∧ rm_Math_max.slots = 0 ∧ rm_Math_max.frames + 1 ≤ rm_Bounds_narrow.frames ∧ 8 + (2 + 11) + rm_Math_max.locals ≤ rm_Bounds_narrow.locals := by decide
theorem rm_ok_Bounds_narrow_Math_min : rm_Math_min.cells = 0 ∧ rm_Math_min.slots = 0 ∧ rm_Math_min.frames + 1 ≤ rm_Bounds_narrow.frames ∧ 8 + (2 + 11) + rm_Math_min.locals ≤ rm_Bounds_narrow.locals := by decide
set_option maxHeartbeats 4000000 in
set_option maxRecDepth 100000 in
theorem k_Bounds_narrow_b89 {p : Program} {l : Launch} {e : Env} {s : State} {m : MethodId} {args : Array Value} {below : List Frame} {meth : Method} {c : Code} {dC : Nat → ClassId} {dI : Nat → Nat → Nat} {cy : Nat → ClassId} {A : Nat → Prop} {o0 : Nat} {a0 : Nat → Nat} {o1 : Nat} {a1 : Nat → Nat} {N : Nat} {y : zSt} (C0 : zCx p s m args meth c cX0_narrow 6 none RX0 (dC, dI) cy) (s0 : zSt) (s1 : zSt) (v2 : Int32) (v3 : Int32) (v4 : Int32) (v5 : Int32) (hA : ∀ q, s.heap.size ≤ q → A q) {H : Heap} {locs : List Loc} (hP : va_P (dC, dI) vwCl (wd_Bounds_narrow cy o0 a0 (zI s0) (zL s0) (zA s0 1) (zA s0 3) (zA s0 4) (zA s0 5) o1 a1 (zI s1) (zL s1) (zA s1 2) (zA s1 3) (zA s1 4) (zA s1 5)) H) (hD : va_D A (wd_Bounds_narrow cy o0 a0 (zI s0) (zL s0) (zA s0 1) (zA s0 3) (zA s0 4) (zA s0 5) o1 a1 (zI s1) (zL s1) (zA s1 2) (zA s1 3) (zA s1 4) (zA s1 5))) (hS : va_S A s.heap H locs) (hf : Bounds_narrow_b89 N s0 s1 v2 v3 v4 v5 = some y) (ls : Array Slot) (hl : lv_has ls 6 [(0, .ref o0), (1, .ref o1), (2, .int v2), (3, .int v3), (4, .int v4), (5, .int v5)]) : W p l e rm_Bounds_narrow s m args below meth c H locs 0 0 (MQ below (zQv (dC, dI) cy (wd_Bounds_narrow cy o0 a0 (zI y) (zL y) (zA y 1) (zA y 3) (zA y 4) (zA y 5) o1 a1 (zI s1) (zL s1) (zA s1 2) (zA s1 3) (zA s1 4) (zA s1 5)) A) args s 0 0 A) (F0 m 89 ls []) := by
  obtain ⟨hx, hb, hr, hml, hown, hT, hk, hK⟩ := id C0
  refine lv_aload_n hx hb dX0_narrow_89 rfl (lv_at hl 0 rfl) ?_
  refine zget (v := .ref (a0 4)) hx hb hown hT hK hP inX0 rfl smX0 0 rfl 4 (by decide) tb_259 rfl dX0_narrow_90 ?_
  refine lv_iload hx hb dX0_narrow_93 (lv_at hl 5 rfl) ?_
  refine lv_aload_n hx hb dX0_narrow_95 rfl (lv_at hl 0 rfl) ?_
  refine zget (v := .ref (a0 4)) hx hb hown hT hK hP inX0 rfl smX0 0 rfl 4 (by decide) tb_259 rfl dX0_narrow_96 ?_
  refine lv_iload hx hb dX0_narrow_99 (lv_at hl 5 rfl) ?_
  obtain ⟨hi1, hf⟩ := zck_some hf
  refine va_iald hx hb hK.1 hP 3 0 rfl rfl hi1 dX0_narrow_101 ?_
  refine lv_aload_n hx hb dX0_narrow_102 rfl (lv_at hl 1 rfl) ?_
  refine zget (v := .ref (a1 4)) hx hb hown hT hK hP inX4 rfl smX4 5 rfl 4 (by decide) tb_221 rfl dX0_narrow_103 ?_
  refine lv_iload_n hx hb dX0_narrow_106 rfl (lv_at hl 2 rfl) ?_
  obtain ⟨hi2, hf⟩ := zck_some hf
  refine va_iald hx hb hK.1 hP 8 0 rfl rfl hi2 dX0_narrow_107 ?_
  obtain ⟨z3, hc4, hf⟩ := zbd_some hf
  refine zri (zS (As := [.int ((zA s0 4) (Int32.toNatClampNeg v5)), .int ((zA s1 4) (Int32.toNatClampNeg v2))]) hx hb hml hown hT hl.1 (c_Math_max ((zA s0 4) (Int32.toNatClampNeg v5)) ((zA s1 4) (Int32.toNatClampNeg v2)) hc4) zY_Math_max tb_783 (zpS hK hP [] rfl) rm_ok_Bounds_narrow_Math_max rfl rfl (Nat.le_of_ble_eq_true rfl) dX0_narrow_108 ⟨Nat.zero_le _, Nat.zero_le _⟩) ?_
  obtain ⟨hi5, hf⟩ := zck_some hf
  refine zast (ws' := (wd_Bounds_narrow cy o0 a0 (zI s0) (zL s0) (zA s0 1) (zA s0 3) (upd (zA s0 4) (Int32.toNatClampNeg v5) z3) (zA s0 5) o1 a1 (zI s1) (zL s1) (zA s1 2) (zA s1 3) (zA s1 4) (zA s1 5))) hx hb hK hP hD hS 3 0 rfl rfl hi5 rfl dX0_narrow_111 (fun H locs hP hD hS => ?_)
  refine lv_aload_n hx hb dX0_narrow_112 rfl (lv_at hl 0 rfl) ?_
  refine zget (v := .ref (a0 5)) hx hb hown hT hK hP inX0 rfl smX0 0 rfl 5 (by decide) tb_260 rfl dX0_narrow_113 ?_
  refine lv_iload hx hb dX0_narrow_116 (lv_at hl 5 rfl) ?_
  refine lv_aload_n hx hb dX0_narrow_118 rfl (lv_at hl 0 rfl) ?_
  refine zget (v := .ref (a0 5)) hx hb hown hT hK hP inX0 rfl smX0 0 rfl 5 (by decide) tb_260 rfl dX0_narrow_119 ?_
  refine lv_iload hx hb dX0_narrow_122 (lv_at hl 5 rfl) ?_
  obtain ⟨hi6, hf⟩ := zck_some hf
  refine va_iald hx hb hK.1 hP 4 0 rfl rfl hi6 dX0_narrow_124 ?_
  refine lv_aload_n hx hb dX0_narrow_125 rfl (lv_at hl 1 rfl) ?_
  refine zget (v := .ref (a1 5)) hx hb hown hT hK hP inX4 rfl smX4 5 rfl 5 (by decide) tb_224 rfl dX0_narrow_126 ?_
  refine lv_iload_n hx hb dX0_narrow_129 rfl (lv_at hl 2 rfl) ?_
  obtain ⟨hi7, hf⟩ := zck_some hf
  refine va_iald hx hb hK.1 hP 9 0 rfl rfl hi7 dX0_narrow_130 ?_
  obtain ⟨z8, hc9, hf⟩ := zbd_some hf
  refine zri (zS (As := [.int ((zA s0 5) (Int32.toNatClampNeg v5)), .int ((zA s1 5) (Int32.toNatClampNeg v2))]) hx hb hml hown hT hl.1 (c_Math_min ((zA s0 5) (Int32.toNatClampNeg v5)) ((zA s1 5) (Int32.toNatClampNeg v2)) hc9) zY_Math_min tb_784 (zpS hK hP [] rfl) rm_ok_Bounds_narrow_Math_min rfl rfl (Nat.le_of_ble_eq_true rfl) dX0_narrow_131 ⟨Nat.zero_le _, Nat.zero_le _⟩) ?_
  obtain ⟨hi10, hf⟩ := zck_some hf
  refine zast (ws' := (wd_Bounds_narrow cy o0 a0 (zI s0) (zL s0) (zA s0 1) (zA s0 3) (upd (zA s0 4) (Int32.toNatClampNeg v5) z3) (upd (zA s0 5) (Int32.toNatClampNeg v5) z8) o1 a1 (zI s1) (zL s1) (zA s1 2) (zA s1 3) (zA s1 4) (zA s1 5))) hx hb hK hP hD hS 4 0 rfl rfl hi10 rfl dX0_narrow_134 (fun H locs hP hD hS => ?_)
  refine lv_aload_n hx hb dX0_narrow_135 rfl (lv_at hl 0 rfl) ?_
  refine zget (v := .ref (a0 1)) hx hb hown hT hK hP inX0 rfl smX0 0 rfl 1 (by decide) tb_254 rfl dX0_narrow_136 ?_
  refine lv_iload_n hx hb dX0_narrow_139 rfl (lv_at hl 3 rfl) ?_
  refine lv_dup2_11 hx hb dX0_narrow_140 rfl rfl ?_
  obtain ⟨hi11, hf⟩ := zck_some hf
  refine va_iald hx hb hK.1 hP 1 0 rfl rfl hi11 dX0_narrow_141 ?_
  refine lv_iconst (v := 1) hx hb dX0_narrow_142 (by decide) ?_
  refine lv_iload hx hb dX0_narrow_143 (lv_at hl 4 rfl) ?_
  refine lv_ishl hx hb dX0_narrow_145 ?_
  refine lv_ior hx hb dX0_narrow_146 ?_
  obtain ⟨hi12, hf⟩ := zck_some hf
  refine zast (ws' := (wd_Bounds_narrow cy o0 a0 (zI s0) (zL s0) (upd (zA s0 1) (Int32.toNatClampNeg v3) (((zA s0 1) (Int32.toNatClampNeg v3)) ||| ((1 : Int32) <<< (v4 &&& 31)))) (zA s0 3) (upd (zA s0 4) (Int32.toNatClampNeg v5) z3) (upd (zA s0 5) (Int32.toNatClampNeg v5) z8) o1 a1 (zI s1) (zL s1) (zA s1 2) (zA s1 3) (zA s1 4) (zA s1 5))) hx hb hK hP hD hS 1 0 rfl rfl hi12 rfl dX0_narrow_147 (fun H locs hP hD hS => ?_)
  refine lv_aload_n hx hb dX0_narrow_148 rfl (lv_at hl 0 rfl) ?_
  refine lv_dup hx hb dX0_narrow_149 rfl ?_
  refine zget (v := .int (zI s0 0)) hx hb hown hT hK hP inX0 rfl smX0 0 rfl 0 (by decide) tb_252 rfl dX0_narrow_150 ?_
  refine lv_iconst (v := 1) hx hb dX0_narrow_153 (by decide) ?_
  refine lv_iload hx hb dX0_narrow_154 (lv_at hl 4 rfl) ?_
  refine lv_ishl hx hb dX0_narrow_156 ?_
  refine lv_ior hx hb dX0_narrow_157 ?_
  refine zput (fs' := fs_Bounds a0 (upd (zI s0) 0 ((zI s0 0) ||| ((1 : Int32) <<< (v4 &&& 31)))) (zL s0)) (ws' := (wd_Bounds_narrow cy o0 a0 (upd (zI s0) 0 ((zI s0 0) ||| ((1 : Int32) <<< (v4 &&& 31)))) (zL s0) (upd (zA s0 1) (Int32.toNatClampNeg v3) (((zA s0 1) (Int32.toNatClampNeg v3)) ||| ((1 : Int32) <<< (v4 &&& 31)))) (zA s0 3) (upd (zA s0 4) (Int32.toNatClampNeg v5) z3) (upd (zA s0 5) (Int32.toNatClampNeg v5) z8) o1 a1 (zI s1) (zL s1) (zA s1 2) (zA s1 3) (zA s1 4) (zA s1 5))) hx hb hown hT hK hP hD hS inX0 rfl smX0 tyX0_ok nmX0 0 rfl 0 (by decide) tb_252 rfl rfl rfl (Nat.le_of_ble_eq_true rfl) rfl rfl dX0_narrow_158 (fun H locs hP hD hS => ?_)
  cases hf
  exact zewv hx hb hr hk hK hP hD hS dX0_narrow_161
set_option maxHeartbeats 4000000 in
set_option maxRecDepth 100000 in
theorem k_Bounds_narrow_b61 {p : Program} {l : Launch} {e : Env} {s : State} {m : MethodId} {args : Array Value} {below : List Frame} {meth : Method} {c : Code} {dC : Nat → ClassId} {dI : Nat → Nat → Nat} {cy : Nat → ClassId} {A : Nat → Prop} {o0 : Nat} {a0 : Nat → Nat} {o1 : Nat} {a1 : Nat → Nat} {N : Nat} {y : zSt} (C0 : zCx p s m args meth c cX0_narrow 6 none RX0 (dC, dI) cy) (s0 : zSt) (s1 : zSt) (v2 : Int32) (v3 : Int32) (v4 : Int32) (v5 : Int32) (hA : ∀ q, s.heap.size ≤ q → A q) {H : Heap} {locs : List Loc} (hP : va_P (dC, dI) vwCl (wd_Bounds_narrow cy o0 a0 (zI s0) (zL s0) (zA s0 1) (zA s0 3) (zA s0 4) (zA s0 5) o1 a1 (zI s1) (zL s1) (zA s1 2) (zA s1 3) (zA s1 4) (zA s1 5)) H) (hD : va_D A (wd_Bounds_narrow cy o0 a0 (zI s0) (zL s0) (zA s0 1) (zA s0 3) (zA s0 4) (zA s0 5) o1 a1 (zI s1) (zL s1) (zA s1 2) (zA s1 3) (zA s1 4) (zA s1 5))) (hS : va_S A s.heap H locs) (hf : Bounds_narrow_b61 N s0 s1 v2 v3 v4 v5 = some y) (ls : Array Slot) (hl : lv_has ls 6 [(0, .ref o0), (1, .ref o1), (2, .int v2), (3, .int v3), (4, .int v4), (5, .int v5)]) : W p l e rm_Bounds_narrow s m args below meth c H locs 0 0 (MQ below (zQv (dC, dI) cy (wd_Bounds_narrow cy o0 a0 (zI y) (zL y) (zA y 1) (zA y 3) (zA y 4) (zA y 5) o1 a1 (zI s1) (zL s1) (zA s1 2) (zA s1 3) (zA s1 4) (zA s1 5)) A) args s 0 0 A) (F0 m 61 ls []) := by
  obtain ⟨hx, hb, hr, hml, hown, hT, hk, hK⟩ := id C0
  refine lv_aload_n hx hb dX0_narrow_61 rfl (lv_at hl 0 rfl) ?_
  refine lv_iload_n hx hb dX0_narrow_62 rfl (lv_at hl 3 rfl) ?_
  refine lv_iload hx hb dX0_narrow_63 (lv_at hl 4 rfl) ?_
  obtain ⟨z1, hc2, hf⟩ := zbd_some hf
  refine zri (zV (As := [.int v3, .int v4]) hx hb hml hown hT hl.1 (c_Bounds_has o0 a0 s0 v3 v4 hc2) zY_Bounds_has tb_779 (zpR hK hP [0, 1] rfl 0 0 rfl rfl rfl) rm_ok_Bounds_narrow_Bounds_has rfl rfl (Nat.le_of_ble_eq_true rfl) dX0_narrow_65 ⟨Nat.zero_le _, Nat.zero_le _⟩) ?_
  refine lv_if_ne (tgt := 89) hx hb dX0_narrow_68 (by decide) (fun hb_3 => ?_) (fun hb_3 => ?_)
  · have hf := zif_f hb_3 hf
    exact k_Bounds_narrow_b89 C0 s0 s1 v2 v3 v4 v5  hA hP hD hS hf _ (lv_sub hl [0, 1, 2, 3, 4, 5] rfl)
  · have hf := zif_t hb_3 hf
    refine lv_aload_n hx hb dX0_narrow_71 rfl (lv_at hl 0 rfl) ?_
    refine zget (v := .ref (a0 4)) hx hb hown hT hK hP inX0 rfl smX0 0 rfl 4 (by decide) tb_259 rfl dX0_narrow_72 ?_
    refine lv_iload hx hb dX0_narrow_75 (lv_at hl 5 rfl) ?_
    refine lv_iconst (v := 0) hx hb dX0_narrow_77 (by decide) ?_
    obtain ⟨hi4, hf⟩ := zck_some hf
    refine zast (ws' := (wd_Bounds_narrow cy o0 a0 (zI s0) (zL s0) (zA s0 1) (zA s0 3) (upd (zA s0 4) (Int32.toNatClampNeg v5) 0) (zA s0 5) o1 a1 (zI s1) (zL s1) (zA s1 2) (zA s1 3) (zA s1 4) (zA s1 5))) hx hb hK hP hD hS 3 0 rfl rfl hi4 rfl dX0_narrow_78 (fun H locs hP hD hS => ?_)
    refine lv_aload_n hx hb dX0_narrow_79 rfl (lv_at hl 0 rfl) ?_
    refine zget (v := .ref (a0 5)) hx hb hown hT hK hP inX0 rfl smX0 0 rfl 5 (by decide) tb_260 rfl dX0_narrow_80 ?_
    refine lv_iload hx hb dX0_narrow_83 (lv_at hl 5 rfl) ?_
    refine lv_sipush (v := 999) hx hb dX0_narrow_85 (by decide) ?_
    obtain ⟨hi5, hf⟩ := zck_some hf
    refine zast (ws' := (wd_Bounds_narrow cy o0 a0 (zI s0) (zL s0) (zA s0 1) (zA s0 3) (upd (zA s0 4) (Int32.toNatClampNeg v5) 0) (upd (zA s0 5) (Int32.toNatClampNeg v5) 999) o1 a1 (zI s1) (zL s1) (zA s1 2) (zA s1 3) (zA s1 4) (zA s1 5))) hx hb hK hP hD hS 4 0 rfl rfl hi5 rfl dX0_narrow_88 (fun H locs hP hD hS => ?_)
    exact k_Bounds_narrow_b89 C0 (zsA (zsA s0 4 (upd (zA s0 4) (Int32.toNatClampNeg v5) 0)) 5 (upd (zA s0 5) (Int32.toNatClampNeg v5) 999)) s1 v2 v3 v4 v5  hA hP hD hS hf _ (lv_sub hl [0, 1, 2, 3, 4, 5] rfl)
set_option maxHeartbeats 4000000 in
set_option maxRecDepth 100000 in
theorem k_Bounds_narrow_b0 {p : Program} {l : Launch} {e : Env} {s : State} {m : MethodId} {args : Array Value} {below : List Frame} {meth : Method} {c : Code} {dC : Nat → ClassId} {dI : Nat → Nat → Nat} {cy : Nat → ClassId} {A : Nat → Prop} {o0 : Nat} {a0 : Nat → Nat} {o1 : Nat} {a1 : Nat → Nat} {N : Nat} {y : zSt} (C0 : zCx p s m args meth c cX0_narrow 6 none RX0 (dC, dI) cy) (s0 : zSt) (s1 : zSt) (v2 : Int32) (hA : ∀ q, s.heap.size ≤ q → A q) {H : Heap} {locs : List Loc} (hP : va_P (dC, dI) vwCl (wd_Bounds_narrow cy o0 a0 (zI s0) (zL s0) (zA s0 1) (zA s0 3) (zA s0 4) (zA s0 5) o1 a1 (zI s1) (zL s1) (zA s1 2) (zA s1 3) (zA s1 4) (zA s1 5)) H) (hD : va_D A (wd_Bounds_narrow cy o0 a0 (zI s0) (zL s0) (zA s0 1) (zA s0 3) (zA s0 4) (zA s0 5) o1 a1 (zI s1) (zL s1) (zA s1 2) (zA s1 3) (zA s1 4) (zA s1 5))) (hS : va_S A s.heap H locs) (hf : Bounds_narrow_b0 N s0 s1 v2 = some y) (ls : Array Slot) (hl : lv_has ls 6 [(0, .ref o0), (1, .ref o1), (2, .int v2)]) : W p l e rm_Bounds_narrow s m args below meth c H locs 0 0 (MQ below (zQv (dC, dI) cy (wd_Bounds_narrow cy o0 a0 (zI y) (zL y) (zA y 1) (zA y 3) (zA y 4) (zA y 5) o1 a1 (zI s1) (zL s1) (zA s1 2) (zA s1 3) (zA s1 4) (zA s1 5)) A) args s 0 0 A) (F0 m 0 ls []) := by
  obtain ⟨hx, hb, hr, hml, hown, hT, hk, hK⟩ := id C0
  refine lv_aload_n hx hb dX0_narrow_0 rfl (lv_at hl 1 rfl) ?_
  refine zget (v := .ref (a1 2)) hx hb hown hT hK hP inX4 rfl smX4 5 rfl 2 (by decide) tb_214 rfl dX0_narrow_1 ?_
  refine lv_iload_n hx hb dX0_narrow_4 rfl (lv_at hl 2 rfl) ?_
  obtain ⟨hi1, hf⟩ := zck_some hf
  refine va_iald hx hb hK.1 hP 6 0 rfl rfl hi1 dX0_narrow_5 ?_
  refine lv_istore_n (lv' := [(3, .int ((zA s1 2) (Int32.toNatClampNeg v2))), (0, .ref o0), (1, .ref o1), (2, .int v2)]) hx hb dX0_narrow_6 rfl hl (by decide) rfl (fun ls hl => ?_)
  refine lv_aload_n hx hb dX0_narrow_7 rfl (lv_at hl 2 rfl) ?_
  refine zget (v := .ref (a1 3)) hx hb hown hT hK hP inX4 rfl smX4 5 rfl 3 (by decide) tb_218 rfl dX0_narrow_8 ?_
  refine lv_iload_n hx hb dX0_narrow_11 rfl (lv_at hl 3 rfl) ?_
  obtain ⟨hi2, hf⟩ := zck_some hf
  refine va_iald hx hb hK.1 hP 7 0 rfl rfl hi2 dX0_narrow_12 ?_
  refine lv_istore (lv' := [(4, .int ((zA s1 3) (Int32.toNatClampNeg v2))), (3, .int ((zA s1 2) (Int32.toNatClampNeg v2))), (0, .ref o0), (1, .ref o1), (2, .int v2)]) hx hb dX0_narrow_13 hl (by decide) rfl (fun ls hl => ?_)
  refine lv_iload_n hx hb dX0_narrow_15 rfl (lv_at hl 1 rfl) ?_
  refine lv_bipush (v := 12) hx hb dX0_narrow_16 (by decide) ?_
  refine lv_imul hx hb dX0_narrow_18 ?_
  refine lv_iload hx hb dX0_narrow_19 (lv_at hl 0 rfl) ?_
  refine lv_iadd hx hb dX0_narrow_21 ?_
  refine lv_istore (lv' := [(5, .int ((((zA s1 2) (Int32.toNatClampNeg v2)) * 12) + ((zA s1 3) (Int32.toNatClampNeg v2)))), (4, .int ((zA s1 3) (Int32.toNatClampNeg v2))), (3, .int ((zA s1 2) (Int32.toNatClampNeg v2))), (0, .ref o0), (1, .ref o1), (2, .int v2)]) hx hb dX0_narrow_22 hl (by decide) rfl (fun ls hl => ?_)
  refine lv_aload_n hx hb dX0_narrow_24 rfl (lv_at hl 3 rfl) ?_
  refine zget (v := .ref (a0 1)) hx hb hown hT hK hP inX0 rfl smX0 0 rfl 1 (by decide) tb_254 rfl dX0_narrow_25 ?_
  refine lv_iload_n hx hb dX0_narrow_28 rfl (lv_at hl 2 rfl) ?_
  obtain ⟨hi3, hf⟩ := zck_some hf
  refine va_iald hx hb hK.1 hP 1 0 rfl rfl hi3 dX0_narrow_29 ?_
  refine lv_if_ne (tgt := 61) hx hb dX0_narrow_30 (by decide) (fun hb_4 => ?_) (fun hb_4 => ?_)
  · have hf := zif_f hb_4 hf
    exact k_Bounds_narrow_b61 C0 s0 s1 v2 ((zA s1 2) (Int32.toNatClampNeg v2)) ((zA s1 3) (Int32.toNatClampNeg v2)) ((((zA s1 2) (Int32.toNatClampNeg v2)) * 12) + ((zA s1 3) (Int32.toNatClampNeg v2)))  hA hP hD hS hf _ (lv_sub hl [3, 4, 5, 2, 1, 0] rfl)
  · have hf := zif_t hb_4 hf
    refine lv_aload_n hx hb dX0_narrow_33 rfl (lv_at hl 3 rfl) ?_
    refine zget (v := .int (zI s0 2)) hx hb hown hT hK hP inX0 rfl smX0 0 rfl 2 (by decide) tb_255 rfl dX0_narrow_34 ?_
    refine lv_iconst (v := 4) hx hb dX0_narrow_37 (by decide) ?_
    refine lv_icmp_ge (tgt := 61) hx hb dX0_narrow_38 (by decide) (fun hb_5 => ?_) (fun hb_5 => ?_)
    · have hf := zif_t hb_5 hf
      exact k_Bounds_narrow_b61 C0 s0 s1 v2 ((zA s1 2) (Int32.toNatClampNeg v2)) ((zA s1 3) (Int32.toNatClampNeg v2)) ((((zA s1 2) (Int32.toNatClampNeg v2)) * 12) + ((zA s1 3) (Int32.toNatClampNeg v2)))  hA hP hD hS hf _ (lv_sub hl [3, 4, 5, 2, 1, 0] rfl)
    · have hf := zif_f hb_5 hf
      refine lv_aload_n hx hb dX0_narrow_41 rfl (lv_at hl 3 rfl) ?_
      refine zget (v := .ref (a0 3)) hx hb hown hT hK hP inX0 rfl smX0 0 rfl 3 (by decide) tb_257 rfl dX0_narrow_42 ?_
      refine lv_aload_n hx hb dX0_narrow_45 rfl (lv_at hl 3 rfl) ?_
      refine zget (v := .int (zI s0 2)) hx hb hown hT hK hP inX0 rfl smX0 0 rfl 2 (by decide) tb_255 rfl dX0_narrow_46 ?_
      refine lv_iload_n hx hb dX0_narrow_49 rfl (lv_at hl 2 rfl) ?_
      obtain ⟨hi6, hf⟩ := zck_some hf
      refine zast (ws' := (wd_Bounds_narrow cy o0 a0 (zI s0) (zL s0) (zA s0 1) (upd (zA s0 3) (Int32.toNatClampNeg (zI s0 2)) ((zA s1 2) (Int32.toNatClampNeg v2))) (zA s0 4) (zA s0 5) o1 a1 (zI s1) (zL s1) (zA s1 2) (zA s1 3) (zA s1 4) (zA s1 5))) hx hb hK hP hD hS 2 0 rfl rfl hi6 rfl dX0_narrow_50 (fun H locs hP hD hS => ?_)
      refine lv_aload_n hx hb dX0_narrow_51 rfl (lv_at hl 3 rfl) ?_
      refine lv_dup hx hb dX0_narrow_52 rfl ?_
      refine zget (v := .int (zI s0 2)) hx hb hown hT hK hP inX0 rfl smX0 0 rfl 2 (by decide) tb_255 rfl dX0_narrow_53 ?_
      refine lv_iconst (v := 1) hx hb dX0_narrow_56 (by decide) ?_
      refine lv_iadd hx hb dX0_narrow_57 ?_
      refine zput (fs' := fs_Bounds a0 (upd (zI s0) 2 ((zI s0 2) + 1)) (zL s0)) (ws' := (wd_Bounds_narrow cy o0 a0 (upd (zI s0) 2 ((zI s0 2) + 1)) (zL s0) (zA s0 1) (upd (zA s0 3) (Int32.toNatClampNeg (zI s0 2)) ((zA s1 2) (Int32.toNatClampNeg v2))) (zA s0 4) (zA s0 5) o1 a1 (zI s1) (zL s1) (zA s1 2) (zA s1 3) (zA s1 4) (zA s1 5))) hx hb hown hT hK hP hD hS inX0 rfl smX0 tyX0_ok nmX0 0 rfl 2 (by decide) tb_255 rfl rfl rfl (Nat.le_of_ble_eq_true rfl) rfl rfl dX0_narrow_58 (fun H locs hP hD hS => ?_)
      exact k_Bounds_narrow_b61 C0 (zpI (zsA s0 3 (upd (zA s0 3) (Int32.toNatClampNeg (zI s0 2)) ((zA s1 2) (Int32.toNatClampNeg v2)))) 2 ((zI s0 2) + 1)) s1 v2 ((zA s1 2) (Int32.toNatClampNeg v2)) ((zA s1 3) (Int32.toNatClampNeg v2)) ((((zA s1 2) (Int32.toNatClampNeg v2)) * 12) + ((zA s1 3) (Int32.toNatClampNeg v2)))  hA hP hD hS hf _ (lv_sub hl [3, 4, 5, 2, 1, 0] rfl)
set_option maxHeartbeats 4000000 in
set_option maxRecDepth 100000 in
theorem c_Bounds_narrow {l : Launch} {dC : Nat → ClassId} {dI : Nat → Nat → Nat} {cy : Nat → ClassId} {sz : Nat} {N : Nat} (o0 : Nat) (a0 : Nat → Nat) (s0 : zSt) (o1 : Nat) (a1 : Nat → Nat) (s1 : zSt) (v2 : Int32) {y : zSt} (hf : Bounds_narrow N s0 s1 v2 = some y) : Met l yX0_narrow (.code yX0_narrow cX0_narrow 6 none :: zt) rm_Bounds_narrow (va_Pc [.ref o0, .ref o1, .int v2] (zPre (dC, dI) cy (wd_Bounds_narrow cy o0 a0 (zI s0) (zL s0) (zA s0 1) (zA s0 3) (zA s0 4) (zA s0 5) o1 a1 (zI s1) (zL s1) (zA s1 2) (zA s1 3) (zA s1 4) (zA s1 5)) sz)) (zQv (dC, dI) cy (wd_Bounds_narrow cy o0 a0 (zI y) (zL y) (zA y 1) (zA y 3) (zA y 4) (zA y 5) o1 a1 (zI s1) (zL s1) (zA s1 2) (zA s1 3) (zA s1 4) (zA s1 5)) (va_A (wd_Bounds_narrow cy o0 a0 (zI s0) (zL s0) (zA s0 1) (zA s0 3) (zA s0 4) (zA s0 5) o1 a1 (zI s1) (zL s1) (zA s1 2) (zA s1 3) (zA s1 4) (zA s1 5)) sz)) 0 0 (va_A (wd_Bounds_narrow cy o0 a0 (zI s0) (zL s0) (zA s0 1) (zA s0 3) (zA s0 4) (zA s0 5) o1 a1 (zI s1) (zL s1) (zA s1 2) (zA s1 3) (zA s1 4) (zA s1 5)) sz) :=
  zentW (Qw := fun A => (zQv (dC, dI) cy (wd_Bounds_narrow cy o0 a0 (zI y) (zL y) (zA y 1) (zA y 3) (zA y 4) (zA y 5) o1 a1 (zI s1) (zL s1) (zA s1 2) (zA s1 3) (zA s1 4) (zA s1 5)) A)) (by decide +kernel) (Nat.le_of_ble_eq_true rfl) (fun p e s m below meth c A C0 hA hP hD hS ls hl => k_Bounds_narrow_b0 C0 s0 s1 v2 hA hP hD hS hf ls hl)
def wd_Bounds_gather (cy : Nat → ClassId) (o0 : Nat) (a0 : Nat → Nat) (g0 : Nat → Int32) (h0 : Nat → Int64) (x0_1 : Nat → Int32) (x0_3 : Nat → Int32) (x0_4 : Nat → Int32) (x0_5 : Nat → Int32) (o1 : Nat) (a1 : Nat → Nat) (g1 : Nat → Int32) (h1 : Nat → Int64) (x1_1 : Nat → Int32) (x1_2 : Nat → Int32) (x1_3 : Nat → Int32) (x1_4 : Nat → Int32) (x1_5 : Nat → Int32) (x1_6 : Nat → Int32) (x1_7 : Nat → Int32) : va_W := [(o0, .inr (0, fs_Bounds a0 g0 h0)), (a0 1, .inl (cy 0, 4, .inl x0_1)), (a0 3, .inl (cy 0, 4, .inl x0_3)), (a0 4, .inl (cy 0, 48, .inl x0_4)), (a0 5, .inl (cy 0, 48, .inl x0_5)), (o1, .inr (4, fs_Entries a1 g1 h1)), (a1 1, .inl (cy 0, 40, .inl x1_1)), (a1 2, .inl (cy 0, 40, .inl x1_2)), (a1 3, .inl (cy 0, 40, .inl x1_3)), (a1 4, .inl (cy 0, 40, .inl x1_4)), (a1 5, .inl (cy 0, 40, .inl x1_5)), (a1 6, .inl (cy 0, 40, .inl x1_6)), (a1 7, .inl (cy 0, 40, .inl x1_7))]
def rm_Bounds_gather : Room := { frames := 3, cells := 0, slots := 0, locals := 87 }
theorem rm_ok_Bounds_gather_Arrays_fill : rm_Arrays_fill.cells = 0 ∧ rm_Arrays_fill.slots = 0 ∧ rm_Arrays_fill.frames + 1 ≤ rm_Bounds_gather.frames ∧ 8 + (4 + 11) + rm_Arrays_fill.locals ≤ rm_Bounds_gather.locals := by decide
theorem rm_ok_Bounds_gather_Bounds_narrow : rm_Bounds_narrow.cells = 0 ∧ rm_Bounds_narrow.slots = 0 ∧ rm_Bounds_narrow.frames + 1 ≤ rm_Bounds_gather.frames ∧ 8 + (6 + 11) + rm_Bounds_narrow.locals ≤ rm_Bounds_gather.locals := by decide
theorem rm_ok_Bounds_gather_Entries_counts : rm_Entries_counts.cells = 0 ∧ rm_Entries_counts.slots = 0 ∧ rm_Entries_counts.frames + 1 ≤ rm_Bounds_gather.frames ∧ 8 + (3 + 11) + rm_Entries_counts.locals ≤ rm_Bounds_gather.locals := by decide
theorem rm_ok_Bounds_gather_Entries_isSound : rm_Entries_isSound.cells = 0 ∧ rm_Entries_isSound.slots = 0 ∧ rm_Entries_isSound.frames + 1 ≤ rm_Bounds_gather.frames ∧ 8 + (2 + 11) + rm_Entries_isSound.locals ≤ rm_Bounds_gather.locals := by decide
set_option maxHeartbeats 4000000 in
set_option maxRecDepth 100000 in
theorem k_Bounds_gather_b67 {p : Program} {l : Launch} {e : Env} {s : State} {m : MethodId} {args : Array Value} {below : List Frame} {meth : Method} {c : Code} {dC : Nat → ClassId} {dI : Nat → Nat → Nat} {cy : Nat → ClassId} {A : Nat → Prop} {o0 : Nat} {a0 : Nat → Nat} {o1 : Nat} {a1 : Nat → Nat} {N : Nat} {kh21 : zSt → Int32 → Option (zSt)} {y : zSt} (C0 : zCx p s m args meth c cX0_gather 5 none RX0 (dC, dI) cy) (s0 : zSt) (s1 : zSt) (v2 : Int32) (v3 : Int32) (v4 : Int32) (hk21 : ∀ (s0 : zSt) (v4 : Int32) {H : Heap} {locs : List Loc} (_ : va_P (dC, dI) vwCl (wd_Bounds_gather cy o0 a0 (zI s0) (zL s0) (zA s0 1) (zA s0 3) (zA s0 4) (zA s0 5) o1 a1 (zI s1) (zL s1) (zA s1 1) (zA s1 2) (zA s1 3) (zA s1 4) (zA s1 5) (zA s1 6) (zA s1 7)) H) (_ : va_D A (wd_Bounds_gather cy o0 a0 (zI s0) (zL s0) (zA s0 1) (zA s0 3) (zA s0 4) (zA s0 5) o1 a1 (zI s1) (zL s1) (zA s1 1) (zA s1 2) (zA s1 3) (zA s1 4) (zA s1 5) (zA s1 6) (zA s1 7))) (_ : va_S A s.heap H locs) (_ : kh21 s0 v4 = some y) (ls : Array Slot) (_ : lv_has ls 5 [(0, .ref o0), (1, .ref o1), (2, .int v2), (3, .int v3), (4, .int v4)]), W p l e rm_Bounds_gather s m args below meth c H locs 0 0 (MQ below (zQv (dC, dI) cy (wd_Bounds_gather cy o0 a0 (zI y) (zL y) (zA y 1) (zA y 3) (zA y 4) (zA y 5) o1 a1 (zI s1) (zL s1) (zA s1 1) (zA s1 2) (zA s1 3) (zA s1 4) (zA s1 5) (zA s1 6) (zA s1 7)) A) args s 0 0 A) (F0 m 21 ls [])) (hA : ∀ q, s.heap.size ≤ q → A q) {H : Heap} {locs : List Loc} (hP : va_P (dC, dI) vwCl (wd_Bounds_gather cy o0 a0 (zI s0) (zL s0) (zA s0 1) (zA s0 3) (zA s0 4) (zA s0 5) o1 a1 (zI s1) (zL s1) (zA s1 1) (zA s1 2) (zA s1 3) (zA s1 4) (zA s1 5) (zA s1 6) (zA s1 7)) H) (hD : va_D A (wd_Bounds_gather cy o0 a0 (zI s0) (zL s0) (zA s0 1) (zA s0 3) (zA s0 4) (zA s0 5) o1 a1 (zI s1) (zL s1) (zA s1 1) (zA s1 2) (zA s1 3) (zA s1 4) (zA s1 5) (zA s1 6) (zA s1 7))) (hS : va_S A s.heap H locs) (hf : Bounds_gather_b67 N kh21 s0 s1 v2 v3 v4 = some y) (ls : Array Slot) (hl : lv_has ls 5 [(0, .ref o0), (1, .ref o1), (2, .int v2), (3, .int v3), (4, .int v4)]) : W p l e rm_Bounds_gather s m args below meth c H locs 0 0 (MQ below (zQv (dC, dI) cy (wd_Bounds_gather cy o0 a0 (zI y) (zL y) (zA y 1) (zA y 3) (zA y 4) (zA y 5) o1 a1 (zI s1) (zL s1) (zA s1 1) (zA s1 2) (zA s1 3) (zA s1 4) (zA s1 5) (zA s1 6) (zA s1 7)) A) args s 0 0 A) (F0 m 67 ls []) := by
  obtain ⟨hx, hb, hr, hml, hown, hT, hk, hK⟩ := id C0
  refine lv_iinc (v := v4 + 1) (lv' := [(4, .int (v4 + 1)), (0, .ref o0), (1, .ref o1), (2, .int v2), (3, .int v3)]) hx hb dX0_gather_67 hl (k := 4) rfl rfl (by decide) rfl (fun ls hl => ?_)
  refine lv_goto (tgt := 21) hx hb dX0_gather_70 (by decide) ?_
  exact hk21 s0 (v4 + 1) hP hD hS hf _ (lv_sub hl [1, 2, 3, 4, 0] rfl)
set_option maxHeartbeats 4000000 in
set_option maxRecDepth 100000 in
theorem k_Bounds_gather_b21 {p : Program} {l : Launch} {e : Env} {s : State} {m : MethodId} {args : Array Value} {below : List Frame} {meth : Method} {c : Code} {dC : Nat → ClassId} {dI : Nat → Nat → Nat} {cy : Nat → ClassId} {A : Nat → Prop} {o0 : Nat} {a0 : Nat → Nat} {o1 : Nat} {a1 : Nat → Nat} {N : Nat} {kh21 : zSt → Int32 → Option (zSt)} {y : zSt} (C0 : zCx p s m args meth c cX0_gather 5 none RX0 (dC, dI) cy) (s0 : zSt) (s1 : zSt) (v2 : Int32) (v3 : Int32) (v4 : Int32) (hk21 : ∀ (s0 : zSt) (v4 : Int32) {H : Heap} {locs : List Loc} (_ : va_P (dC, dI) vwCl (wd_Bounds_gather cy o0 a0 (zI s0) (zL s0) (zA s0 1) (zA s0 3) (zA s0 4) (zA s0 5) o1 a1 (zI s1) (zL s1) (zA s1 1) (zA s1 2) (zA s1 3) (zA s1 4) (zA s1 5) (zA s1 6) (zA s1 7)) H) (_ : va_D A (wd_Bounds_gather cy o0 a0 (zI s0) (zL s0) (zA s0 1) (zA s0 3) (zA s0 4) (zA s0 5) o1 a1 (zI s1) (zL s1) (zA s1 1) (zA s1 2) (zA s1 3) (zA s1 4) (zA s1 5) (zA s1 6) (zA s1 7))) (_ : va_S A s.heap H locs) (_ : kh21 s0 v4 = some y) (ls : Array Slot) (_ : lv_has ls 5 [(0, .ref o0), (1, .ref o1), (2, .int v2), (3, .int v3), (4, .int v4)]), W p l e rm_Bounds_gather s m args below meth c H locs 0 0 (MQ below (zQv (dC, dI) cy (wd_Bounds_gather cy o0 a0 (zI y) (zL y) (zA y 1) (zA y 3) (zA y 4) (zA y 5) o1 a1 (zI s1) (zL s1) (zA s1 1) (zA s1 2) (zA s1 3) (zA s1 4) (zA s1 5) (zA s1 6) (zA s1 7)) A) args s 0 0 A) (F0 m 21 ls [])) (hA : ∀ q, s.heap.size ≤ q → A q) {H : Heap} {locs : List Loc} (hP : va_P (dC, dI) vwCl (wd_Bounds_gather cy o0 a0 (zI s0) (zL s0) (zA s0 1) (zA s0 3) (zA s0 4) (zA s0 5) o1 a1 (zI s1) (zL s1) (zA s1 1) (zA s1 2) (zA s1 3) (zA s1 4) (zA s1 5) (zA s1 6) (zA s1 7)) H) (hD : va_D A (wd_Bounds_gather cy o0 a0 (zI s0) (zL s0) (zA s0 1) (zA s0 3) (zA s0 4) (zA s0 5) o1 a1 (zI s1) (zL s1) (zA s1 1) (zA s1 2) (zA s1 3) (zA s1 4) (zA s1 5) (zA s1 6) (zA s1 7))) (hS : va_S A s.heap H locs) (hf : Bounds_gather_b21 N kh21 s0 s1 v2 v3 v4 = some y) (ls : Array Slot) (hl : lv_has ls 5 [(0, .ref o0), (1, .ref o1), (2, .int v2), (3, .int v3), (4, .int v4)]) : W p l e rm_Bounds_gather s m args below meth c H locs 0 0 (MQ below (zQv (dC, dI) cy (wd_Bounds_gather cy o0 a0 (zI y) (zL y) (zA y 1) (zA y 3) (zA y 4) (zA y 5) o1 a1 (zI s1) (zL s1) (zA s1 1) (zA s1 2) (zA s1 3) (zA s1 4) (zA s1 5) (zA s1 6) (zA s1 7)) A) args s 0 0 A) (F0 m 21 ls []) := by
  obtain ⟨hx, hb, hr, hml, hown, hT, hk, hK⟩ := id C0
  refine lv_iload hx hb dX0_gather_21 (lv_at hl 4 rfl) ?_
  refine lv_aload_n hx hb dX0_gather_23 rfl (lv_at hl 1 rfl) ?_
  refine zget (v := .int (zI s1 0)) hx hb hown hT hK hP inX4 rfl smX4 5 rfl 0 (by decide) tb_206 rfl dX0_gather_24 ?_
  refine lv_icmp_ge (tgt := 73) hx hb dX0_gather_27 (by decide) (fun hb_1 => ?_) (fun hb_1 => ?_)
  · have hf := zif_t hb_1 hf
    cases hf
    exact zewv hx hb hr hk hK hP hD hS dX0_gather_73
  · have hf := zif_f hb_1 hf
    refine lv_aload_n hx hb dX0_gather_30 rfl (lv_at hl 1 rfl) ?_
    refine lv_iload hx hb dX0_gather_31 (lv_at hl 4 rfl) ?_
    obtain ⟨z2, hc3, hf⟩ := zbd_some hf
    refine zri (zV (As := [.int v4]) hx hb hml hown hT hl.1 (c_Entries_isSound o1 a1 s1 v4 hc3) zY_Entries_isSound tb_767 (zpR hK hP [5, 7] rfl 0 4 rfl rfl rfl) rm_ok_Bounds_gather_Entries_isSound rfl rfl (Nat.le_of_ble_eq_true rfl) dX0_gather_33 ⟨Nat.zero_le _, Nat.zero_le _⟩) ?_
    refine lv_if_eq (tgt := 67) hx hb dX0_gather_36 (by decide) (fun hb_4 => ?_) (fun hb_4 => ?_)
    · have hf := zif_t hb_4 hf
      exact k_Bounds_gather_b67 C0 s0 s1 v2 v3 v4 hk21 hA hP hD hS hf _ (lv_sub hl [0, 1, 2, 3, 4] rfl)
    · have hf := zif_f hb_4 hf
      refine lv_aload_n hx hb dX0_gather_39 rfl (lv_at hl 1 rfl) ?_
      refine zget (v := .ref (a1 1)) hx hb hown hT hK hP inX4 rfl smX4 5 rfl 1 (by decide) tb_210 rfl dX0_gather_40 ?_
      refine lv_iload hx hb dX0_gather_43 (lv_at hl 4 rfl) ?_
      obtain ⟨hi5, hf⟩ := zck_some hf
      refine va_iald hx hb hK.1 hP 6 0 rfl rfl hi5 dX0_gather_45 ?_
      refine lv_iload_n hx hb dX0_gather_46 rfl (lv_at hl 2 rfl) ?_
      refine lv_icmp_ne (tgt := 67) hx hb dX0_gather_47 (by decide) (fun hb_6 => ?_) (fun hb_6 => ?_)
      · have hf := zif_f hb_6 hf
        exact k_Bounds_gather_b67 C0 s0 s1 v2 v3 v4 hk21 hA hP hD hS hf _ (lv_sub hl [0, 1, 2, 3, 4] rfl)
      · have hf := zif_t hb_6 hf
        refine lv_aload_n hx hb dX0_gather_50 rfl (lv_at hl 1 rfl) ?_
        refine lv_iload hx hb dX0_gather_51 (lv_at hl 4 rfl) ?_
        refine lv_iload_n hx hb dX0_gather_53 rfl (lv_at hl 3 rfl) ?_
        obtain ⟨z7, hc8, hf⟩ := zbd_some hf
        refine zri (zV (As := [.int v4, .int v3]) hx hb hml hown hT hl.1 (c_Entries_counts o1 a1 s1 v4 v3 hc8) zY_Entries_counts tb_771 (zpR hK hP [5, 11, 12] rfl 0 4 rfl rfl rfl) rm_ok_Bounds_gather_Entries_counts rfl rfl (Nat.le_of_ble_eq_true rfl) dX0_gather_54 ⟨Nat.zero_le _, Nat.zero_le _⟩) ?_
        refine lv_if_eq (tgt := 67) hx hb dX0_gather_57 (by decide) (fun hb_9 => ?_) (fun hb_9 => ?_)
        · have hf := zif_t hb_9 hf
          exact k_Bounds_gather_b67 C0 s0 s1 v2 v3 v4 hk21 hA hP hD hS hf _ (lv_sub hl [0, 1, 2, 3, 4] rfl)
        · have hf := zif_f hb_9 hf
          refine lv_aload_n hx hb dX0_gather_60 rfl (lv_at hl 0 rfl) ?_
          refine lv_aload_n hx hb dX0_gather_61 rfl (lv_at hl 1 rfl) ?_
          refine lv_iload hx hb dX0_gather_62 (lv_at hl 4 rfl) ?_
          obtain ⟨z10, hc11, hf⟩ := zbd_some hf
          refine zwv (wr := [(a1 1, .inl (cy 0, 40, .inl (zA s1 1))), (a1 6, .inl (cy 0, 40, .inl (zA s1 6))), (a1 7, .inl (cy 0, 40, .inl (zA s1 7)))]) (ws' := (wd_Bounds_gather cy o0 a0 (zI z10) (zL z10) (zA z10 1) (zA z10 3) (zA z10 4) (zA z10 5) o1 a1 (zI s1) (zL s1) (zA s1 1) (zA s1 2) (zA s1 3) (zA s1 4) (zA s1 5) (zA s1 6) (zA s1 7))) (zV (As := [.ref o1, .int v4]) hx hb hml hown hT hl.1 (c_Bounds_narrow o0 a0 s0 o1 a1 s1 v4 hc11) zY_Bounds_narrow tb_775 (zpRw hK hP hD [0, 1, 2, 3, 4, 5, 7, 8, 9, 10] (by decide) rfl 0 0 rfl rfl rfl rfl) rm_ok_Bounds_gather_Bounds_narrow rfl rfl (Nat.le_of_ble_eq_true rfl) dX0_gather_64 ⟨Nat.zero_le _, Nat.zero_le _⟩) hP hD hS hA [0, 1, 2, 3, 4, 5, 7, 8, 9, 10] [6, 11, 12] [3, 4, 5, 6, 7, 8, 0, 9, 10, 11, 12, 1, 2] rfl rfl (by decide) (by decide) (by decide) rfl rfl (fun H locs hP hD hS => ?_)
          exact k_Bounds_gather_b67 C0 z10 s1 v2 v3 v4 hk21 hA hP hD hS hf _ (lv_sub hl [0, 1, 2, 3, 4] rfl)
set_option maxHeartbeats 4000000 in
set_option maxRecDepth 100000 in
theorem k_Bounds_gather_h21 {p : Program} {l : Launch} {e : Env} {s : State} {m : MethodId} {args : Array Value} {below : List Frame} {meth : Method} {c : Code} {dC : Nat → ClassId} {dI : Nat → Nat → Nat} {cy : Nat → ClassId} {A : Nat → Prop} {o0 : Nat} {a0 : Nat → Nat} {o1 : Nat} {a1 : Nat → Nat} {N : Nat} {y : zSt} (C0 : zCx p s m args meth c cX0_gather 5 none RX0 (dC, dI) cy) (s1 : zSt) (v2 : Int32) (v3 : Int32) (hA : ∀ q, s.heap.size ≤ q → A q) : ∀ (n : Nat) (s0 : zSt) (v4 : Int32) {H : Heap} {locs : List Loc} (hP : va_P (dC, dI) vwCl (wd_Bounds_gather cy o0 a0 (zI s0) (zL s0) (zA s0 1) (zA s0 3) (zA s0 4) (zA s0 5) o1 a1 (zI s1) (zL s1) (zA s1 1) (zA s1 2) (zA s1 3) (zA s1 4) (zA s1 5) (zA s1 6) (zA s1 7)) H) (hD : va_D A (wd_Bounds_gather cy o0 a0 (zI s0) (zL s0) (zA s0 1) (zA s0 3) (zA s0 4) (zA s0 5) o1 a1 (zI s1) (zL s1) (zA s1 1) (zA s1 2) (zA s1 3) (zA s1 4) (zA s1 5) (zA s1 6) (zA s1 7))) (hS : va_S A s.heap H locs) (hf : Bounds_gather_h21 N s1 v2 v3 n s0 v4 = some y) (ls : Array Slot) (hl : lv_has ls 5 [(0, .ref o0), (1, .ref o1), (2, .int v2), (3, .int v3), (4, .int v4)]), W p l e rm_Bounds_gather s m args below meth c H locs 0 0 (MQ below (zQv (dC, dI) cy (wd_Bounds_gather cy o0 a0 (zI y) (zL y) (zA y 1) (zA y 3) (zA y 4) (zA y 5) o1 a1 (zI s1) (zL s1) (zA s1 1) (zA s1 2) (zA s1 3) (zA s1 4) (zA s1 5) (zA s1 6) (zA s1 7)) A) args s 0 0 A) (F0 m 21 ls []) := by
  intro n
  induction n with
  | zero => intro s0 v4 H locs hP hD hS hf; cases hf
  | succ n ih =>
    intro s0 v4 H locs hP hD hS hf ls hl
    have hf : Bounds_gather_b21 N (Bounds_gather_h21 N s1 v2 v3 n) s0 s1 v2 v3 v4 = some y := hf
    exact k_Bounds_gather_b21 C0 s0 s1 v2 v3 v4 (fun s0 v4 _ _ hP hD hS hf ls hl => ih s0 v4 hP hD hS hf ls hl) hA hP hD hS hf ls hl
set_option maxHeartbeats 4000000 in
set_option maxRecDepth 100000 in
theorem k_Bounds_gather_b0 {p : Program} {l : Launch} {e : Env} {s : State} {m : MethodId} {args : Array Value} {below : List Frame} {meth : Method} {c : Code} {dC : Nat → ClassId} {dI : Nat → Nat → Nat} {cy : Nat → ClassId} {A : Nat → Prop} {o0 : Nat} {a0 : Nat → Nat} {o1 : Nat} {a1 : Nat → Nat} {N : Nat} {y : zSt} (C0 : zCx p s m args meth c cX0_gather 5 none RX0 (dC, dI) cy) (s0 : zSt) (s1 : zSt) (v2 : Int32) (v3 : Int32) (hA : ∀ q, s.heap.size ≤ q → A q) {H : Heap} {locs : List Loc} (hP : va_P (dC, dI) vwCl (wd_Bounds_gather cy o0 a0 (zI s0) (zL s0) (zA s0 1) (zA s0 3) (zA s0 4) (zA s0 5) o1 a1 (zI s1) (zL s1) (zA s1 1) (zA s1 2) (zA s1 3) (zA s1 4) (zA s1 5) (zA s1 6) (zA s1 7)) H) (hD : va_D A (wd_Bounds_gather cy o0 a0 (zI s0) (zL s0) (zA s0 1) (zA s0 3) (zA s0 4) (zA s0 5) o1 a1 (zI s1) (zL s1) (zA s1 1) (zA s1 2) (zA s1 3) (zA s1 4) (zA s1 5) (zA s1 6) (zA s1 7))) (hS : va_S A s.heap H locs) (hf : Bounds_gather_b0 N s0 s1 v2 v3 = some y) (ls : Array Slot) (hl : lv_has ls 5 [(0, .ref o0), (1, .ref o1), (2, .int v2), (3, .int v3)]) : W p l e rm_Bounds_gather s m args below meth c H locs 0 0 (MQ below (zQv (dC, dI) cy (wd_Bounds_gather cy o0 a0 (zI y) (zL y) (zA y 1) (zA y 3) (zA y 4) (zA y 5) o1 a1 (zI s1) (zL s1) (zA s1 1) (zA s1 2) (zA s1 3) (zA s1 4) (zA s1 5) (zA s1 6) (zA s1 7)) A) args s 0 0 A) (F0 m 0 ls []) := by
  obtain ⟨hx, hb, hr, hml, hown, hT, hk, hK⟩ := id C0
  refine lv_aload_n hx hb dX0_gather_0 rfl (lv_at hl 0 rfl) ?_
  refine lv_iconst (v := 0) hx hb dX0_gather_1 (by decide) ?_
  refine zput (fs' := fs_Bounds a0 (upd (zI s0) 0 0) (zL s0)) (ws' := (wd_Bounds_gather cy o0 a0 (upd (zI s0) 0 0) (zL s0) (zA s0 1) (zA s0 3) (zA s0 4) (zA s0 5) o1 a1 (zI s1) (zL s1) (zA s1 1) (zA s1 2) (zA s1 3) (zA s1 4) (zA s1 5) (zA s1 6) (zA s1 7))) hx hb hown hT hK hP hD hS inX0 rfl smX0 tyX0_ok nmX0 0 rfl 0 (by decide) tb_252 rfl rfl rfl (Nat.le_of_ble_eq_true rfl) rfl rfl dX0_gather_2 (fun H locs hP hD hS => ?_)
  refine lv_aload_n hx hb dX0_gather_5 rfl (lv_at hl 0 rfl) ?_
  refine lv_iconst (v := 0) hx hb dX0_gather_6 (by decide) ?_
  refine zput (fs' := fs_Bounds a0 (upd (upd (zI s0) 0 0) 2 0) (zL s0)) (ws' := (wd_Bounds_gather cy o0 a0 (upd (upd (zI s0) 0 0) 2 0) (zL s0) (zA s0 1) (zA s0 3) (zA s0 4) (zA s0 5) o1 a1 (zI s1) (zL s1) (zA s1 1) (zA s1 2) (zA s1 3) (zA s1 4) (zA s1 5) (zA s1 6) (zA s1 7))) hx hb hown hT hK hP hD hS inX0 rfl smX0 tyX0_ok nmX0 0 rfl 2 (by decide) tb_255 rfl rfl rfl (Nat.le_of_ble_eq_true rfl) rfl rfl dX0_gather_7 (fun H locs hP hD hS => ?_)
  refine lv_aload_n hx hb dX0_gather_10 rfl (lv_at hl 0 rfl) ?_
  refine zget (v := .ref (a0 1)) hx hb hown hT hK hP inX0 rfl smX0 0 rfl 1 (by decide) tb_254 rfl dX0_gather_11 ?_
  refine lv_iconst (v := 0) hx hb dX0_gather_14 (by decide) ?_
  obtain ⟨z1, hc2, hf⟩ := zbd_some hf
  refine zwv (wr := [(o0, .inr (0, fs_Bounds a0 (upd (upd (zI s0) 0 0) 2 0) (zL s0))), (a0 3, .inl (cy 0, 4, .inl (zA s0 3))), (a0 4, .inl (cy 0, 48, .inl (zA s0 4))), (a0 5, .inl (cy 0, 48, .inl (zA s0 5))), (o1, .inr (4, fs_Entries a1 (zI s1) (zL s1))), (a1 1, .inl (cy 0, 40, .inl (zA s1 1))), (a1 2, .inl (cy 0, 40, .inl (zA s1 2))), (a1 3, .inl (cy 0, 40, .inl (zA s1 3))), (a1 4, .inl (cy 0, 40, .inl (zA s1 4))), (a1 5, .inl (cy 0, 40, .inl (zA s1 5))), (a1 6, .inl (cy 0, 40, .inl (zA s1 6))), (a1 7, .inl (cy 0, 40, .inl (zA s1 7)))]) (ws' := (wd_Bounds_gather cy o0 a0 (upd (upd (zI s0) 0 0) 2 0) (zL s0) z1 (zA s0 3) (zA s0 4) (zA s0 5) o1 a1 (zI s1) (zL s1) (zA s1 1) (zA s1 2) (zA s1 3) (zA s1 4) (zA s1 5) (zA s1 6) (zA s1 7))) (zS (As := [.ref (a0 1), .int 0]) hx hb hml hown hT hl.1 (c_Arrays_fill (a0 1) 4 (zA s0 1) 0 hc2) zY_Arrays_fill tb_766 (zpSw hK hP hD [1] (by decide) rfl rfl) rm_ok_Bounds_gather_Arrays_fill rfl rfl (Nat.le_of_ble_eq_true rfl) dX0_gather_15 ⟨Nat.zero_le _, Nat.zero_le _⟩) hP hD hS hA [1] [0, 2, 3, 4, 5, 6, 7, 8, 9, 10, 11, 12] [0, 12, 1, 2, 3, 4, 5, 6, 7, 8, 9, 10, 11] rfl rfl (by decide) (by decide) (by decide) rfl rfl (fun H locs hP hD hS => ?_)
  refine lv_iconst (v := 0) hx hb dX0_gather_18 (by decide) ?_
  refine lv_istore (lv' := [(4, .int 0), (0, .ref o0), (1, .ref o1), (2, .int v2), (3, .int v3)]) hx hb dX0_gather_19 hl (by decide) rfl (fun ls hl => ?_)
  exact k_Bounds_gather_h21 C0 s1 v2 v3  hA N (zsA (zpI (zpI s0 0 0) 2 0) 1 z1) 0 hP hD hS hf _ (lv_sub hl [1, 2, 3, 4, 0] rfl)
set_option maxHeartbeats 4000000 in
set_option maxRecDepth 100000 in
theorem c_Bounds_gather {l : Launch} {dC : Nat → ClassId} {dI : Nat → Nat → Nat} {cy : Nat → ClassId} {sz : Nat} {N : Nat} (o0 : Nat) (a0 : Nat → Nat) (s0 : zSt) (o1 : Nat) (a1 : Nat → Nat) (s1 : zSt) (v2 : Int32) (v3 : Int32) {y : zSt} (hf : Bounds_gather N s0 s1 v2 v3 = some y) : Met l yX0_gather (.code yX0_gather cX0_gather 5 none :: zt) rm_Bounds_gather (va_Pc [.ref o0, .ref o1, .int v2, .int v3] (zPre (dC, dI) cy (wd_Bounds_gather cy o0 a0 (zI s0) (zL s0) (zA s0 1) (zA s0 3) (zA s0 4) (zA s0 5) o1 a1 (zI s1) (zL s1) (zA s1 1) (zA s1 2) (zA s1 3) (zA s1 4) (zA s1 5) (zA s1 6) (zA s1 7)) sz)) (zQv (dC, dI) cy (wd_Bounds_gather cy o0 a0 (zI y) (zL y) (zA y 1) (zA y 3) (zA y 4) (zA y 5) o1 a1 (zI s1) (zL s1) (zA s1 1) (zA s1 2) (zA s1 3) (zA s1 4) (zA s1 5) (zA s1 6) (zA s1 7)) (va_A (wd_Bounds_gather cy o0 a0 (zI s0) (zL s0) (zA s0 1) (zA s0 3) (zA s0 4) (zA s0 5) o1 a1 (zI s1) (zL s1) (zA s1 1) (zA s1 2) (zA s1 3) (zA s1 4) (zA s1 5) (zA s1 6) (zA s1 7)) sz)) 0 0 (va_A (wd_Bounds_gather cy o0 a0 (zI s0) (zL s0) (zA s0 1) (zA s0 3) (zA s0 4) (zA s0 5) o1 a1 (zI s1) (zL s1) (zA s1 1) (zA s1 2) (zA s1 3) (zA s1 4) (zA s1 5) (zA s1 6) (zA s1 7)) sz) :=
  zentW (Qw := fun A => (zQv (dC, dI) cy (wd_Bounds_gather cy o0 a0 (zI y) (zL y) (zA y 1) (zA y 3) (zA y 4) (zA y 5) o1 a1 (zI s1) (zL s1) (zA s1 1) (zA s1 2) (zA s1 3) (zA s1 4) (zA s1 5) (zA s1 6) (zA s1 7)) A)) (by decide +kernel) (Nat.le_of_ble_eq_true rfl) (fun p e s m below meth c A C0 hA hP hD hS ls hl => k_Bounds_gather_b0 C0 s0 s1 v2 v3 hA hP hD hS hf ls hl)
def wd_Bounds_canBe (cy : Nat → ClassId) (o0 : Nat) (a0 : Nat → Nat) (g0 : Nat → Int32) (h0 : Nat → Int64) (x0_1 : Nat → Int32) (x0_3 : Nat → Int32) (x0_4 : Nat → Int32) (x0_5 : Nat → Int32) (o1 n1 : Nat) (f1 : Nat → Int32) (o2 n2 : Nat) (f2 : Nat → Int32) : va_W := [(o0, .inr (0, fs_Bounds a0 g0 h0)), (a0 1, .inl (cy 0, 4, .inl x0_1)), (a0 3, .inl (cy 0, 4, .inl x0_3)), (a0 4, .inl (cy 0, 48, .inl x0_4)), (a0 5, .inl (cy 0, 48, .inl x0_5)), (o1, .inl (cy 0, n1, .inl f1)), (o2, .inl (cy 0, n2, .inl f2))]
def rm_Bounds_canBe : Room := { frames := 2, cells := 0, slots := 0, locals := 62 }
theorem rm_ok_Bounds_canBe_Bounds_has : rm_Bounds_has.cells = 0 ∧ rm_Bounds_has.slots = 0 ∧ rm_Bounds_has.frames + 1 ≤ rm_Bounds_canBe.frames ∧ 8 + (3 + 11) + rm_Bounds_has.locals ≤ rm_Bounds_canBe.locals := by decide
set_option maxHeartbeats 4000000 in
set_option maxRecDepth 100000 in
theorem k_Bounds_canBe_b76 {p : Program} {l : Launch} {e : Env} {s : State} {m : MethodId} {args : Array Value} {below : List Frame} {meth : Method} {c : Code} {dC : Nat → ClassId} {dI : Nat → Nat → Nat} {cy : Nat → ClassId} {o0 : Nat} {a0 : Nat → Nat} {o1 : Nat} {o2 : Nat} {N : Nat} {kh3 : Int32 → Option (Int32)} {y : Int32} (C0 : zCx p s m args meth c cX0_canBe 6 (some .boolean) RX0 (dC, dI) cy) (s0 : zSt) (n1 : Nat) (f1 : Nat → Int32) (n2 : Nat) (f2 : Nat → Int32) (v1 : Int32) (v4 : Int32) (hk3 : ∀ (v4 : Int32) (_ : kh3 v4 = some y) (ls : Array Slot) (_ : lv_has ls 6 [(0, .ref o0), (1, .int v1), (2, .ref o1), (3, .ref o2), (4, .int v4)]), W p l e rm_Bounds_canBe s m args below meth c s.heap [] 0 0 (MQ below (zSi y) args s 0 0 (fun _ => False)) (F0 m 3 ls [])) (hP : va_P (dC, dI) vwCl (wd_Bounds_canBe cy o0 a0 (zI s0) (zL s0) (zA s0 1) (zA s0 3) (zA s0 4) (zA s0 5) o1 n1 f1 o2 n2 f2) s.heap) (hf : Bounds_canBe_b76 N kh3 s0 n1 f1 n2 f2 v1 v4 = some y) (ls : Array Slot) (hl : lv_has ls 6 [(0, .ref o0), (1, .int v1), (2, .ref o1), (3, .ref o2), (4, .int v4)]) : W p l e rm_Bounds_canBe s m args below meth c s.heap [] 0 0 (MQ below (zSi y) args s 0 0 (fun _ => False)) (F0 m 76 ls []) := by
  obtain ⟨hx, hb, hr, hml, hown, hT, hk, hK⟩ := id C0
  refine lv_iinc (v := v4 + 1) (lv' := [(4, .int (v4 + 1)), (0, .ref o0), (1, .int v1), (2, .ref o1), (3, .ref o2)]) hx hb dX0_canBe_76 hl (k := 4) rfl rfl (by decide) rfl (fun ls hl => ?_)
  refine lv_goto (tgt := 3) hx hb dX0_canBe_79 (by decide) ?_
  exact hk3 (v4 + 1) hf _ (lv_sub hl [1, 2, 3, 4, 0] rfl)
set_option maxHeartbeats 4000000 in
set_option maxRecDepth 100000 in
theorem k_Bounds_canBe_b3 {p : Program} {l : Launch} {e : Env} {s : State} {m : MethodId} {args : Array Value} {below : List Frame} {meth : Method} {c : Code} {dC : Nat → ClassId} {dI : Nat → Nat → Nat} {cy : Nat → ClassId} {o0 : Nat} {a0 : Nat → Nat} {o1 : Nat} {o2 : Nat} {N : Nat} {kh3 : Int32 → Option (Int32)} {y : Int32} (C0 : zCx p s m args meth c cX0_canBe 6 (some .boolean) RX0 (dC, dI) cy) (s0 : zSt) (n1 : Nat) (f1 : Nat → Int32) (n2 : Nat) (f2 : Nat → Int32) (v1 : Int32) (v4 : Int32) (hk3 : ∀ (v4 : Int32) (_ : kh3 v4 = some y) (ls : Array Slot) (_ : lv_has ls 6 [(0, .ref o0), (1, .int v1), (2, .ref o1), (3, .ref o2), (4, .int v4)]), W p l e rm_Bounds_canBe s m args below meth c s.heap [] 0 0 (MQ below (zSi y) args s 0 0 (fun _ => False)) (F0 m 3 ls [])) (hP : va_P (dC, dI) vwCl (wd_Bounds_canBe cy o0 a0 (zI s0) (zL s0) (zA s0 1) (zA s0 3) (zA s0 4) (zA s0 5) o1 n1 f1 o2 n2 f2) s.heap) (hf : Bounds_canBe_b3 N kh3 s0 n1 f1 n2 f2 v1 v4 = some y) (ls : Array Slot) (hl : lv_has ls 6 [(0, .ref o0), (1, .int v1), (2, .ref o1), (3, .ref o2), (4, .int v4)]) : W p l e rm_Bounds_canBe s m args below meth c s.heap [] 0 0 (MQ below (zSi y) args s 0 0 (fun _ => False)) (F0 m 3 ls []) := by
  obtain ⟨hx, hb, hr, hml, hown, hT, hk, hK⟩ := id C0
  refine lv_iload hx hb dX0_canBe_3 (lv_at hl 4 rfl) ?_
  refine lv_aload_n hx hb dX0_canBe_5 rfl (lv_at hl 0 rfl) ?_
  refine zget (v := .int (zI s0 2)) hx hb hown hT hK hP inX0 rfl smX0 0 rfl 2 (by decide) tb_255 rfl dX0_canBe_6 ?_
  refine lv_icmp_ge (tgt := 82) hx hb dX0_canBe_9 (by decide) (fun hb_1 => ?_) (fun hb_1 => ?_)
  · have hf := zif_t hb_1 hf
    refine lv_iconst (v := 1) hx hb dX0_canBe_82 (by decide) ?_
    cases hf
    exact zerz hx hb hr hk (Or.inr rfl) dX0_canBe_83
  · have hf := zif_f hb_1 hf
    refine lv_aload_n hx hb dX0_canBe_12 rfl (lv_at hl 0 rfl) ?_
    refine zget (v := .ref (a0 3)) hx hb hown hT hK hP inX0 rfl smX0 0 rfl 3 (by decide) tb_257 rfl dX0_canBe_13 ?_
    refine lv_iload hx hb dX0_canBe_16 (lv_at hl 4 rfl) ?_
    obtain ⟨hi2, hf⟩ := zck_some hf
    refine va_iald hx hb hK.1 hP 2 0 rfl rfl hi2 dX0_canBe_18 ?_
    refine lv_bipush (v := 12) hx hb dX0_canBe_19 (by decide) ?_
    refine lv_imul hx hb dX0_canBe_21 ?_
    refine lv_iload_n hx hb dX0_canBe_22 rfl (lv_at hl 1 rfl) ?_
    refine lv_iadd hx hb dX0_canBe_23 ?_
    refine lv_istore (lv' := [(5, .int ((((zA s0 3) (Int32.toNatClampNeg v4)) * 12) + v1)), (0, .ref o0), (1, .int v1), (2, .ref o1), (3, .ref o2), (4, .int v4)]) hx hb dX0_canBe_24 hl (by decide) rfl (fun ls hl => ?_)
    refine lv_aload_n hx hb dX0_canBe_26 rfl (lv_at hl 1 rfl) ?_
    refine lv_aload_n hx hb dX0_canBe_27 rfl (lv_at hl 1 rfl) ?_
    refine zget (v := .ref (a0 3)) hx hb hown hT hK hP inX0 rfl smX0 0 rfl 3 (by decide) tb_257 rfl dX0_canBe_28 ?_
    refine lv_iload hx hb dX0_canBe_31 (lv_at hl 5 rfl) ?_
    obtain ⟨hi3, hf⟩ := zck_some hf
    refine va_iald hx hb hK.1 hP 2 0 rfl rfl hi3 dX0_canBe_33 ?_
    refine lv_iload_n hx hb dX0_canBe_34 rfl (lv_at hl 2 rfl) ?_
    obtain ⟨z4, hc5, hf⟩ := zbd_some hf
    refine zri (zV (As := [.int ((zA s0 3) (Int32.toNatClampNeg v4)), .int v1]) hx hb hml hown hT hl.1 (c_Bounds_has o0 a0 s0 ((zA s0 3) (Int32.toNatClampNeg v4)) v1 hc5) zY_Bounds_has tb_779 (zpR hK hP [0, 1] rfl 0 0 rfl rfl rfl) rm_ok_Bounds_canBe_Bounds_has rfl rfl (Nat.le_of_ble_eq_true rfl) dX0_canBe_35 ⟨Nat.zero_le _, Nat.zero_le _⟩) ?_
    refine lv_if_eq (tgt := 76) hx hb dX0_canBe_38 (by decide) (fun hb_6 => ?_) (fun hb_6 => ?_)
    · have hf := zif_t hb_6 hf
      exact k_Bounds_canBe_b76 C0 s0 n1 f1 n2 f2 v1 v4 hk3 hP hf _ (lv_sub hl [1, 2, 3, 4, 5] rfl)
    · have hf := zif_f hb_6 hf
      refine lv_aload_n hx hb dX0_canBe_41 rfl (lv_at hl 3 rfl) ?_
      refine lv_iload hx hb dX0_canBe_42 (lv_at hl 0 rfl) ?_
      obtain ⟨hi7, hf⟩ := zck_some hf
      refine va_iald hx hb hK.1 hP 5 0 rfl rfl hi7 dX0_canBe_44 ?_
      refine lv_aload_n hx hb dX0_canBe_45 rfl (lv_at hl 1 rfl) ?_
      refine zget (v := .ref (a0 5)) hx hb hown hT hK hP inX0 rfl smX0 0 rfl 5 (by decide) tb_260 rfl dX0_canBe_46 ?_
      refine lv_iload hx hb dX0_canBe_49 (lv_at hl 0 rfl) ?_
      obtain ⟨hi8, hf⟩ := zck_some hf
      refine va_iald hx hb hK.1 hP 4 0 rfl rfl hi8 dX0_canBe_51 ?_
      refine lv_icmp_gt (tgt := 74) hx hb dX0_canBe_52 (by decide) (fun hb_9 => ?_) (fun hb_9 => ?_)
      · have hf := zif_t hb_9 hf
        refine lv_iconst (v := 0) hx hb dX0_canBe_74 (by decide) ?_
        cases hf
        exact zerz hx hb hr hk (Or.inl rfl) dX0_canBe_75
      · have hf := zif_f hb_9 hf
        refine lv_aload_n hx hb dX0_canBe_55 rfl (lv_at hl 3 rfl) ?_
        refine lv_iload hx hb dX0_canBe_56 (lv_at hl 0 rfl) ?_
        obtain ⟨hi10, hf⟩ := zck_some hf
        refine va_iald hx hb hK.1 hP 5 0 rfl rfl hi10 dX0_canBe_58 ?_
        refine lv_aload_n hx hb dX0_canBe_59 rfl (lv_at hl 4 rfl) ?_
        refine lv_iload hx hb dX0_canBe_60 (lv_at hl 0 rfl) ?_
        obtain ⟨hi11, hf⟩ := zck_some hf
        refine va_iald hx hb hK.1 hP 6 0 rfl rfl hi11 dX0_canBe_62 ?_
        refine lv_iadd hx hb dX0_canBe_63 ?_
        refine lv_aload_n hx hb dX0_canBe_64 rfl (lv_at hl 1 rfl) ?_
        refine zget (v := .ref (a0 4)) hx hb hown hT hK hP inX0 rfl smX0 0 rfl 4 (by decide) tb_259 rfl dX0_canBe_65 ?_
        refine lv_iload hx hb dX0_canBe_68 (lv_at hl 0 rfl) ?_
        obtain ⟨hi12, hf⟩ := zck_some hf
        refine va_iald hx hb hK.1 hP 3 0 rfl rfl hi12 dX0_canBe_70 ?_
        refine lv_icmp_ge (tgt := 76) hx hb dX0_canBe_71 (by decide) (fun hb_13 => ?_) (fun hb_13 => ?_)
        · have hf := zif_t hb_13 hf
          exact k_Bounds_canBe_b76 C0 s0 n1 f1 n2 f2 v1 v4 hk3 hP hf _ (lv_sub hl [1, 2, 3, 4, 5] rfl)
        · have hf := zif_f hb_13 hf
          refine lv_iconst (v := 0) hx hb dX0_canBe_74 (by decide) ?_
          cases hf
          exact zerz hx hb hr hk (Or.inl rfl) dX0_canBe_75
set_option maxHeartbeats 4000000 in
set_option maxRecDepth 100000 in
theorem k_Bounds_canBe_h3 {p : Program} {l : Launch} {e : Env} {s : State} {m : MethodId} {args : Array Value} {below : List Frame} {meth : Method} {c : Code} {dC : Nat → ClassId} {dI : Nat → Nat → Nat} {cy : Nat → ClassId} {o0 : Nat} {a0 : Nat → Nat} {o1 : Nat} {o2 : Nat} {N : Nat} {y : Int32} (C0 : zCx p s m args meth c cX0_canBe 6 (some .boolean) RX0 (dC, dI) cy) (s0 : zSt) (n1 : Nat) (f1 : (Nat → Int32)) (n2 : Nat) (f2 : (Nat → Int32)) (v1 : Int32) (hP : va_P (dC, dI) vwCl (wd_Bounds_canBe cy o0 a0 (zI s0) (zL s0) (zA s0 1) (zA s0 3) (zA s0 4) (zA s0 5) o1 n1 f1 o2 n2 f2) s.heap) : ∀ (n : Nat) (v4 : Int32) (hf : Bounds_canBe_h3 N s0 n1 f1 n2 f2 v1 n v4 = some y) (ls : Array Slot) (hl : lv_has ls 6 [(0, .ref o0), (1, .int v1), (2, .ref o1), (3, .ref o2), (4, .int v4)]), W p l e rm_Bounds_canBe s m args below meth c s.heap [] 0 0 (MQ below (zSi y) args s 0 0 (fun _ => False)) (F0 m 3 ls []) := by
  intro n
  induction n with
  | zero => intro v4 hf; cases hf
  | succ n ih =>
    intro v4 hf ls hl
    have hf : Bounds_canBe_b3 N (Bounds_canBe_h3 N s0 n1 f1 n2 f2 v1 n) s0 n1 f1 n2 f2 v1 v4 = some y := hf
    exact k_Bounds_canBe_b3 C0 s0 n1 f1 n2 f2 v1 v4 (fun v4 hf ls hl => ih v4 hf ls hl) hP hf ls hl
set_option maxHeartbeats 4000000 in
set_option maxRecDepth 100000 in
theorem k_Bounds_canBe_b0 {p : Program} {l : Launch} {e : Env} {s : State} {m : MethodId} {args : Array Value} {below : List Frame} {meth : Method} {c : Code} {dC : Nat → ClassId} {dI : Nat → Nat → Nat} {cy : Nat → ClassId} {o0 : Nat} {a0 : Nat → Nat} {o1 : Nat} {o2 : Nat} {N : Nat} {y : Int32} (C0 : zCx p s m args meth c cX0_canBe 6 (some .boolean) RX0 (dC, dI) cy) (s0 : zSt) (n1 : Nat) (f1 : Nat → Int32) (n2 : Nat) (f2 : Nat → Int32) (v1 : Int32) (hP : va_P (dC, dI) vwCl (wd_Bounds_canBe cy o0 a0 (zI s0) (zL s0) (zA s0 1) (zA s0 3) (zA s0 4) (zA s0 5) o1 n1 f1 o2 n2 f2) s.heap) (hf : Bounds_canBe_b0 N s0 n1 f1 n2 f2 v1 = some y) (ls : Array Slot) (hl : lv_has ls 6 [(0, .ref o0), (1, .int v1), (2, .ref o1), (3, .ref o2)]) : W p l e rm_Bounds_canBe s m args below meth c s.heap [] 0 0 (MQ below (zSi y) args s 0 0 (fun _ => False)) (F0 m 0 ls []) := by
  obtain ⟨hx, hb, hr, hml, hown, hT, hk, hK⟩ := id C0
  refine lv_iconst (v := 0) hx hb dX0_canBe_0 (by decide) ?_
  refine lv_istore (lv' := [(4, .int 0), (0, .ref o0), (1, .int v1), (2, .ref o1), (3, .ref o2)]) hx hb dX0_canBe_1 hl (by decide) rfl (fun ls hl => ?_)
  exact k_Bounds_canBe_h3 C0 s0 n1 f1 n2 f2 v1  hP N 0 hf _ (lv_sub hl [1, 2, 3, 4, 0] rfl)
set_option maxHeartbeats 4000000 in
set_option maxRecDepth 100000 in
theorem c_Bounds_canBe {l : Launch} {dC : Nat → ClassId} {dI : Nat → Nat → Nat} {cy : Nat → ClassId} {N : Nat} (o0 : Nat) (a0 : Nat → Nat) (s0 : zSt) (o1 n1 : Nat) (f1 : Nat → Int32) (o2 n2 : Nat) (f2 : Nat → Int32) (v1 : Int32) {y : Int32} (hf : Bounds_canBe N s0 n1 f1 n2 f2 v1 = some y) : Met l yX0_canBe (.code yX0_canBe cX0_canBe 6 (some .boolean) :: zt) rm_Bounds_canBe (va_Pc [.ref o0, .int v1, .ref o1, .ref o2] (zRd (dC, dI) cy (wd_Bounds_canBe cy o0 a0 (zI s0) (zL s0) (zA s0 1) (zA s0 3) (zA s0 4) (zA s0 5) o1 n1 f1 o2 n2 f2))) (zSi y) 0 0 (fun _ => False) :=
  zentR (by decide +kernel) (Nat.le_of_ble_eq_true rfl) (fun p e s m below meth c C0 hP ls hl => k_Bounds_canBe_b0 C0 s0 n1 f1 n2 f2 v1 hP hf ls hl)
def wd_CH_within (cy : Nat → ClassId) : va_W := []
def rm_CH_within : Room := { frames := 1, cells := 0, slots := 0, locals := 40 }
set_option maxHeartbeats 4000000 in
set_option maxRecDepth 100000 in
theorem k_CH_within_b0 {p : Program} {l : Launch} {e : Env} {s : State} {m : MethodId} {args : Array Value} {below : List Frame} {meth : Method} {c : Code} {dC : Nat → ClassId} {dI : Nat → Nat → Nat} {cy : Nat → ClassId} {N : Nat} {y : Int32} (C0 : zCx p s m args meth c cX10_within 3 (some .boolean) RX10 (dC, dI) cy) (v0 : Int32) (v1 : Int32) (v2 : Int32) (hP : va_P (dC, dI) vwCl (wd_CH_within cy) s.heap) (hf : CH_within_b0 N v0 v1 v2 = some y) (ls : Array Slot) (hl : lv_has ls 3 [(0, .int v0), (1, .int v1), (2, .int v2)]) : W p l e rm_CH_within s m args below meth c s.heap [] 0 0 (MQ below (zSi y) args s 0 0 (fun _ => False)) (F0 m 0 ls []) := by
  obtain ⟨hx, hb, hr, hml, hown, hT, hk, hK⟩ := id C0
  refine lv_iload_n hx hb dX10_within_0 rfl (lv_at hl 0 rfl) ?_
  refine lv_iload_n hx hb dX10_within_1 rfl (lv_at hl 1 rfl) ?_
  refine lv_icmp_lt (tgt := 14) hx hb dX10_within_2 (by decide) (fun hb_1 => ?_) (fun hb_1 => ?_)
  · have hf := zif_t hb_1 hf
    refine lv_iconst (v := 0) hx hb dX10_within_14 (by decide) ?_
    cases hf
    exact zerz hx hb hr hk (Or.inl rfl) dX10_within_15
  · have hf := zif_f hb_1 hf
    refine lv_iload_n hx hb dX10_within_5 rfl (lv_at hl 0 rfl) ?_
    refine lv_iload_n hx hb dX10_within_6 rfl (lv_at hl 2 rfl) ?_
    refine lv_icmp_gt (tgt := 14) hx hb dX10_within_7 (by decide) (fun hb_2 => ?_) (fun hb_2 => ?_)
    · have hf := zif_t hb_2 hf
      refine lv_iconst (v := 0) hx hb dX10_within_14 (by decide) ?_
      cases hf
      exact zerz hx hb hr hk (Or.inl rfl) dX10_within_15
    · have hf := zif_f hb_2 hf
      refine lv_iconst (v := 1) hx hb dX10_within_10 (by decide) ?_
      refine lv_goto (tgt := 15) hx hb dX10_within_11 (by decide) ?_
      cases hf
      exact zerz hx hb hr hk (Or.inr rfl) dX10_within_15
set_option maxHeartbeats 4000000 in
set_option maxRecDepth 100000 in
theorem c_CH_within {l : Launch} {dC : Nat → ClassId} {dI : Nat → Nat → Nat} {cy : Nat → ClassId} {N : Nat} (v0 : Int32) (v1 : Int32) (v2 : Int32) {y : Int32} (hf : CH_within N v0 v1 v2 = some y) : Met l yX10_within (.code yX10_within cX10_within 3 (some .boolean) :: zt) rm_CH_within (va_Pc [.int v0, .int v1, .int v2] (zRd (dC, dI) cy (wd_CH_within cy))) (zSi y) 0 0 (fun _ => False) :=
  zentR (by decide +kernel) (Nat.le_of_ble_eq_true rfl) (fun p e s m below meth c C0 hP ls hl => k_CH_within_b0 C0 v0 v1 v2 hP hf ls hl)
def wd_Bounds_allow (cy : Nat → ClassId) (o0 : Nat) (a0 : Nat → Nat) (g0 : Nat → Int32) (h0 : Nat → Int64) (x0_4 : Nat → Int32) (x0_5 : Nat → Int32) : va_W := [(o0, .inr (0, fs_Bounds a0 g0 h0)), (a0 4, .inl (cy 0, 48, .inl x0_4)), (a0 5, .inl (cy 0, 48, .inl x0_5))]
def rm_Bounds_allow : Room := { frames := 2, cells := 0, slots := 0, locals := 62 }
theorem rm_ok_Bounds_allow_CH_within : rm_CH_within.cells = 0 ∧ rm_CH_within.slots = 0 ∧ rm_CH_within.frames + 1 ≤ rm_Bounds_allow.frames ∧ 8 + (3 + 11) + rm_CH_within.locals ≤ rm_Bounds_allow.locals := by decide
set_option maxHeartbeats 4000000 in
set_option maxRecDepth 100000 in
theorem k_Bounds_allow_b0 {p : Program} {l : Launch} {e : Env} {s : State} {m : MethodId} {args : Array Value} {below : List Frame} {meth : Method} {c : Code} {dC : Nat → ClassId} {dI : Nat → Nat → Nat} {cy : Nat → ClassId} {o0 : Nat} {a0 : Nat → Nat} {N : Nat} {y : Int32} (C0 : zCx p s m args meth c cX0_allow 5 (some .boolean) RX0 (dC, dI) cy) (s0 : zSt) (v1 : Int32) (v2 : Int32) (v3 : Int32) (hP : va_P (dC, dI) vwCl (wd_Bounds_allow cy o0 a0 (zI s0) (zL s0) (zA s0 4) (zA s0 5)) s.heap) (hf : Bounds_allow_b0 N s0 v1 v2 v3 = some y) (ls : Array Slot) (hl : lv_has ls 5 [(0, .ref o0), (1, .int v1), (2, .int v2), (3, .int v3)]) : W p l e rm_Bounds_allow s m args below meth c s.heap [] 0 0 (MQ below (zSi y) args s 0 0 (fun _ => False)) (F0 m 0 ls []) := by
  obtain ⟨hx, hb, hr, hml, hown, hT, hk, hK⟩ := id C0
  refine lv_iload_n hx hb dX0_allow_0 rfl (lv_at hl 1 rfl) ?_
  refine lv_bipush (v := 12) hx hb dX0_allow_1 (by decide) ?_
  refine lv_imul hx hb dX0_allow_3 ?_
  refine lv_iload_n hx hb dX0_allow_4 rfl (lv_at hl 2 rfl) ?_
  refine lv_iadd hx hb dX0_allow_5 ?_
  refine lv_istore (lv' := [(4, .int ((v1 * 12) + v2)), (0, .ref o0), (1, .int v1), (2, .int v2), (3, .int v3)]) hx hb dX0_allow_6 hl (by decide) rfl (fun ls hl => ?_)
  refine lv_iload_n hx hb dX0_allow_8 rfl (lv_at hl 4 rfl) ?_
  refine lv_aload_n hx hb dX0_allow_9 rfl (lv_at hl 1 rfl) ?_
  refine zget (v := .ref (a0 4)) hx hb hown hT hK hP inX0 rfl smX0 0 rfl 4 (by decide) tb_259 rfl dX0_allow_10 ?_
  refine lv_iload hx hb dX0_allow_13 (lv_at hl 0 rfl) ?_
  obtain ⟨hi1, hf⟩ := zck_some hf
  refine va_iald hx hb hK.1 hP 1 0 rfl rfl hi1 dX0_allow_15 ?_
  refine lv_aload_n hx hb dX0_allow_16 rfl (lv_at hl 1 rfl) ?_
  refine zget (v := .ref (a0 5)) hx hb hown hT hK hP inX0 rfl smX0 0 rfl 5 (by decide) tb_260 rfl dX0_allow_17 ?_
  refine lv_iload hx hb dX0_allow_20 (lv_at hl 0 rfl) ?_
  obtain ⟨hi2, hf⟩ := zck_some hf
  refine va_iald hx hb hK.1 hP 2 0 rfl rfl hi2 dX0_allow_22 ?_
  obtain ⟨z3, hc4, hf⟩ := zbd_some hf
  refine zri (zSN (As := [.int v3, .int ((zA s0 4) (Int32.toNatClampNeg ((v1 * 12) + v2))), .int ((zA s0 5) (Int32.toNatClampNeg ((v1 * 12) + v2)))]) hx hb hml hown hT hl.1 (c_CH_within v3 ((zA s0 4) (Int32.toNatClampNeg ((v1 * 12) + v2))) ((zA s0 5) (Int32.toNatClampNeg ((v1 * 12) + v2))) hc4) zY_CH_within hK nl_8 (zpS hK hP [] rfl) rm_ok_Bounds_allow_CH_within rfl rfl (Nat.le_of_ble_eq_true rfl) dX0_allow_23 ⟨Nat.zero_le _, Nat.zero_le _⟩) ?_
  obtain ⟨hq5, hf⟩ := zcb_some hf
  cases hf
  exact zerz hx hb hr hk hq5 dX0_allow_26
set_option maxHeartbeats 4000000 in
set_option maxRecDepth 100000 in
theorem c_Bounds_allow {l : Launch} {dC : Nat → ClassId} {dI : Nat → Nat → Nat} {cy : Nat → ClassId} {N : Nat} (o0 : Nat) (a0 : Nat → Nat) (s0 : zSt) (v1 : Int32) (v2 : Int32) (v3 : Int32) {y : Int32} (hf : Bounds_allow N s0 v1 v2 v3 = some y) : Met l yX0_allow (.code yX0_allow cX0_allow 5 (some .boolean) :: zt) rm_Bounds_allow (va_Pc [.ref o0, .int v1, .int v2, .int v3] (zRd (dC, dI) cy (wd_Bounds_allow cy o0 a0 (zI s0) (zL s0) (zA s0 4) (zA s0 5)))) (zSi y) 0 0 (fun _ => False) :=
  zentR (by decide +kernel) (Nat.le_of_ble_eq_true rfl) (fun p e s m below meth c C0 hP ls hl => k_Bounds_allow_b0 C0 s0 v1 v2 v3 hP hf ls hl)
def wd_Valley_isBeast (cy : Nat → ClassId) (o0 : Nat) (a0 : Nat → Nat) (g0 : Nat → Int32) (h0 : Nat → Int64) : va_W := [(o0, .inr (9, fs_Valley a0 g0 h0))]
def rm_Valley_isBeast : Room := { frames := 1, cells := 0, slots := 0, locals := 40 }
set_option maxHeartbeats 4000000 in
set_option maxRecDepth 100000 in
theorem k_Valley_isBeast_b0 {p : Program} {l : Launch} {e : Env} {s : State} {m : MethodId} {args : Array Value} {below : List Frame} {meth : Method} {c : Code} {dC : Nat → ClassId} {dI : Nat → Nat → Nat} {cy : Nat → ClassId} {o0 : Nat} {a0 : Nat → Nat} {N : Nat} {y : Int32} (C0 : zCx p s m args meth c cX9_isBeast 2 (some .boolean) RX9 (dC, dI) cy) (s0 : zSt) (v1 : Int32) (hP : va_P (dC, dI) vwCl (wd_Valley_isBeast cy o0 a0 (zI s0) (zL s0)) s.heap) (hf : Valley_isBeast_b0 N s0 v1 = some y) (ls : Array Slot) (hl : lv_has ls 2 [(0, .ref o0), (1, .int v1)]) : W p l e rm_Valley_isBeast s m args below meth c s.heap [] 0 0 (MQ below (zSi y) args s 0 0 (fun _ => False)) (F0 m 0 ls []) := by
  obtain ⟨hx, hb, hr, hml, hown, hT, hk, hK⟩ := id C0
  refine lv_aload_n hx hb dX9_isBeast_0 rfl (lv_at hl 0 rfl) ?_
  refine zget (v := .int (zI s0 8)) hx hb hown hT hK hP inX9 rfl smX9 0 rfl 8 (by decide) tb_121 rfl dX9_isBeast_1 ?_
  refine lv_iload_n hx hb dX9_isBeast_4 rfl (lv_at hl 1 rfl) ?_
  refine lv_ishr hx hb dX9_isBeast_5 ?_
  refine lv_iconst (v := 1) hx hb dX9_isBeast_6 (by decide) ?_
  refine lv_iand hx hb dX9_isBeast_7 ?_
  refine lv_iconst (v := 1) hx hb dX9_isBeast_8 (by decide) ?_
  refine lv_icmp_ne (tgt := 16) hx hb dX9_isBeast_9 (by decide) (fun hb_1 => ?_) (fun hb_1 => ?_)
  · have hf := zif_f hb_1 hf
    refine lv_iconst (v := 0) hx hb dX9_isBeast_16 (by decide) ?_
    cases hf
    exact zerz hx hb hr hk (Or.inl rfl) dX9_isBeast_17
  · have hf := zif_t hb_1 hf
    refine lv_iconst (v := 1) hx hb dX9_isBeast_12 (by decide) ?_
    refine lv_goto (tgt := 17) hx hb dX9_isBeast_13 (by decide) ?_
    cases hf
    exact zerz hx hb hr hk (Or.inr rfl) dX9_isBeast_17
set_option maxHeartbeats 4000000 in
set_option maxRecDepth 100000 in
theorem c_Valley_isBeast {l : Launch} {dC : Nat → ClassId} {dI : Nat → Nat → Nat} {cy : Nat → ClassId} {N : Nat} (o0 : Nat) (a0 : Nat → Nat) (s0 : zSt) (v1 : Int32) {y : Int32} (hf : Valley_isBeast N s0 v1 = some y) : Met l yX9_isBeast (.code yX9_isBeast cX9_isBeast 2 (some .boolean) :: zt) rm_Valley_isBeast (va_Pc [.ref o0, .int v1] (zRd (dC, dI) cy (wd_Valley_isBeast cy o0 a0 (zI s0) (zL s0)))) (zSi y) 0 0 (fun _ => False) :=
  zentR (by decide +kernel) (Nat.le_of_ble_eq_true rfl) (fun p e s m below meth c C0 hP ls hl => k_Valley_isBeast_b0 C0 s0 v1 hP hf ls hl)
def wd_Creeps_gather (cy : Nat → ClassId) (o0 : Nat) (a0 : Nat → Nat) (g0 : Nat → Int32) (h0 : Nat → Int64) (x0_1 : Nat → Int32) (x0_3 : Nat → Int32) (x0_4 : Nat → Int32) (x0_5 : Nat → Int32) (x0_7 : Nat → Int32) (o1 : Nat) (a1 : Nat → Nat) (g1 : Nat → Int32) (h1 : Nat → Int64) (x1_5 : Nat → Int32) (o2 : Nat) (a2 : Nat → Nat) (g2 : Nat → Int32) (h2 : Nat → Int64) (x2_1 : Nat → Int32) (x2_2 : Nat → Int32) (x2_3 : Nat → Int32) (x2_6 : Nat → Int32) (x2_7 : Nat → Int32) : va_W := [(o0, .inr (1, fs_Creeps a0 g0 h0)), (a0 1, .inl (cy 0, 8, .inl x0_1)), (a0 3, .inl (cy 0, 40, .inl x0_3)), (a0 4, .inl (cy 0, 40, .inl x0_4)), (a0 5, .inl (cy 0, 40, .inl x0_5)), (a0 7, .inl (cy 0, 360, .inl x0_7)), (o1, .inr (9, fs_Valley a1 g1 h1)), (a1 5, .inl (cy 0, 11, .inl x1_5)), (o2, .inr (4, fs_Entries a2 g2 h2)), (a2 1, .inl (cy 0, 40, .inl x2_1)), (a2 2, .inl (cy 0, 40, .inl x2_2)), (a2 3, .inl (cy 0, 40, .inl x2_3)), (a2 6, .inl (cy 0, 40, .inl x2_6)), (a2 7, .inl (cy 0, 40, .inl x2_7))]
def rm_Creeps_gather : Room := { frames := 2, cells := 0, slots := 0, locals := 62 }
theorem rm_ok_Creeps_gather_Entries_counts : rm_Entries_counts.cells = 0 ∧ rm_Entries_counts.slots = 0 ∧ rm_Entries_counts.frames + 1 ≤ rm_Creeps_gather.frames ∧ 8 + (3 + 11) + rm_Entries_counts.locals ≤ rm_Creeps_gather.locals := by decide
theorem rm_ok_Creeps_gather_Entries_isSound : rm_Entries_isSound.cells = 0 ∧ rm_Entries_isSound.slots = 0 ∧ rm_Entries_isSound.frames + 1 ≤ rm_Creeps_gather.frames ∧ 8 + (2 + 11) + rm_Entries_isSound.locals ≤ rm_Creeps_gather.locals := by decide
theorem rm_ok_Creeps_gather_Valley_isBeast : rm_Valley_isBeast.cells = 0 ∧ rm_Valley_isBeast.slots = 0 ∧ rm_Valley_isBeast.frames + 1 ≤ rm_Creeps_gather.frames ∧ 8 + (2 + 11) + rm_Valley_isBeast.locals ≤ rm_Creeps_gather.locals := by decide
set_option maxHeartbeats 4000000 in
set_option maxRecDepth 100000 in
theorem k_Creeps_gather_b166 {p : Program} {l : Launch} {e : Env} {s : State} {m : MethodId} {args : Array Value} {below : List Frame} {meth : Method} {c : Code} {dC : Nat → ClassId} {dI : Nat → Nat → Nat} {cy : Nat → ClassId} {A : Nat → Prop} {o0 : Nat} {a0 : Nat → Nat} {o1 : Nat} {a1 : Nat → Nat} {o2 : Nat} {a2 : Nat → Nat} {N : Nat} {kh75 : zSt → Int32 → Option (zSt)} {y : zSt} (C0 : zCx p s m args meth c cX1_gather 5 none RX1 (dC, dI) cy) (s0 : zSt) (s1 : zSt) (s2 : zSt) (v3 : Int32) (v4 : Int32) (hk75 : ∀ (s0 : zSt) (v4 : Int32) {H : Heap} {locs : List Loc} (_ : va_P (dC, dI) vwCl (wd_Creeps_gather cy o0 a0 (zI s0) (zL s0) (zA s0 1) (zA s0 3) (zA s0 4) (zA s0 5) (zA s0 7) o1 a1 (zI s1) (zL s1) (zA s1 5) o2 a2 (zI s2) (zL s2) (zA s2 1) (zA s2 2) (zA s2 3) (zA s2 6) (zA s2 7)) H) (_ : va_D A (wd_Creeps_gather cy o0 a0 (zI s0) (zL s0) (zA s0 1) (zA s0 3) (zA s0 4) (zA s0 5) (zA s0 7) o1 a1 (zI s1) (zL s1) (zA s1 5) o2 a2 (zI s2) (zL s2) (zA s2 1) (zA s2 2) (zA s2 3) (zA s2 6) (zA s2 7))) (_ : va_S A s.heap H locs) (_ : kh75 s0 v4 = some y) (ls : Array Slot) (_ : lv_has ls 5 [(0, .ref o0), (2, .ref o2), (3, .int v3), (4, .int v4)]), W p l e rm_Creeps_gather s m args below meth c H locs 0 0 (MQ below (zQv (dC, dI) cy (wd_Creeps_gather cy o0 a0 (zI y) (zL y) (zA y 1) (zA y 3) (zA y 4) (zA y 5) (zA y 7) o1 a1 (zI s1) (zL s1) (zA s1 5) o2 a2 (zI s2) (zL s2) (zA s2 1) (zA s2 2) (zA s2 3) (zA s2 6) (zA s2 7)) A) args s 0 0 A) (F0 m 75 ls [])) (hA : ∀ q, s.heap.size ≤ q → A q) {H : Heap} {locs : List Loc} (hP : va_P (dC, dI) vwCl (wd_Creeps_gather cy o0 a0 (zI s0) (zL s0) (zA s0 1) (zA s0 3) (zA s0 4) (zA s0 5) (zA s0 7) o1 a1 (zI s1) (zL s1) (zA s1 5) o2 a2 (zI s2) (zL s2) (zA s2 1) (zA s2 2) (zA s2 3) (zA s2 6) (zA s2 7)) H) (hD : va_D A (wd_Creeps_gather cy o0 a0 (zI s0) (zL s0) (zA s0 1) (zA s0 3) (zA s0 4) (zA s0 5) (zA s0 7) o1 a1 (zI s1) (zL s1) (zA s1 5) o2 a2 (zI s2) (zL s2) (zA s2 1) (zA s2 2) (zA s2 3) (zA s2 6) (zA s2 7))) (hS : va_S A s.heap H locs) (hf : Creeps_gather_b166 N kh75 s0 s1 s2 v3 v4 = some y) (ls : Array Slot) (hl : lv_has ls 5 [(0, .ref o0), (2, .ref o2), (3, .int v3), (4, .int v4)]) : W p l e rm_Creeps_gather s m args below meth c H locs 0 0 (MQ below (zQv (dC, dI) cy (wd_Creeps_gather cy o0 a0 (zI y) (zL y) (zA y 1) (zA y 3) (zA y 4) (zA y 5) (zA y 7) o1 a1 (zI s1) (zL s1) (zA s1 5) o2 a2 (zI s2) (zL s2) (zA s2 1) (zA s2 2) (zA s2 3) (zA s2 6) (zA s2 7)) A) args s 0 0 A) (F0 m 166 ls []) := by
  obtain ⟨hx, hb, hr, hml, hown, hT, hk, hK⟩ := id C0
  refine lv_iinc (v := v4 + 1) (lv' := [(4, .int (v4 + 1)), (0, .ref o0), (2, .ref o2), (3, .int v3)]) hx hb dX1_gather_166 hl (k := 3) rfl rfl (by decide) rfl (fun ls hl => ?_)
  refine lv_goto (tgt := 75) hx hb dX1_gather_169 (by decide) ?_
  exact hk75 s0 (v4 + 1) hP hD hS hf _ (lv_sub hl [1, 2, 3, 0] rfl)
set_option maxHeartbeats 4000000 in
set_option maxRecDepth 100000 in
theorem k_Creeps_gather_b75 {p : Program} {l : Launch} {e : Env} {s : State} {m : MethodId} {args : Array Value} {below : List Frame} {meth : Method} {c : Code} {dC : Nat → ClassId} {dI : Nat → Nat → Nat} {cy : Nat → ClassId} {A : Nat → Prop} {o0 : Nat} {a0 : Nat → Nat} {o1 : Nat} {a1 : Nat → Nat} {o2 : Nat} {a2 : Nat → Nat} {N : Nat} {kh75 : zSt → Int32 → Option (zSt)} {y : zSt} (C0 : zCx p s m args meth c cX1_gather 5 none RX1 (dC, dI) cy) (s0 : zSt) (s1 : zSt) (s2 : zSt) (v3 : Int32) (v4 : Int32) (hk75 : ∀ (s0 : zSt) (v4 : Int32) {H : Heap} {locs : List Loc} (_ : va_P (dC, dI) vwCl (wd_Creeps_gather cy o0 a0 (zI s0) (zL s0) (zA s0 1) (zA s0 3) (zA s0 4) (zA s0 5) (zA s0 7) o1 a1 (zI s1) (zL s1) (zA s1 5) o2 a2 (zI s2) (zL s2) (zA s2 1) (zA s2 2) (zA s2 3) (zA s2 6) (zA s2 7)) H) (_ : va_D A (wd_Creeps_gather cy o0 a0 (zI s0) (zL s0) (zA s0 1) (zA s0 3) (zA s0 4) (zA s0 5) (zA s0 7) o1 a1 (zI s1) (zL s1) (zA s1 5) o2 a2 (zI s2) (zL s2) (zA s2 1) (zA s2 2) (zA s2 3) (zA s2 6) (zA s2 7))) (_ : va_S A s.heap H locs) (_ : kh75 s0 v4 = some y) (ls : Array Slot) (_ : lv_has ls 5 [(0, .ref o0), (2, .ref o2), (3, .int v3), (4, .int v4)]), W p l e rm_Creeps_gather s m args below meth c H locs 0 0 (MQ below (zQv (dC, dI) cy (wd_Creeps_gather cy o0 a0 (zI y) (zL y) (zA y 1) (zA y 3) (zA y 4) (zA y 5) (zA y 7) o1 a1 (zI s1) (zL s1) (zA s1 5) o2 a2 (zI s2) (zL s2) (zA s2 1) (zA s2 2) (zA s2 3) (zA s2 6) (zA s2 7)) A) args s 0 0 A) (F0 m 75 ls [])) (hA : ∀ q, s.heap.size ≤ q → A q) {H : Heap} {locs : List Loc} (hP : va_P (dC, dI) vwCl (wd_Creeps_gather cy o0 a0 (zI s0) (zL s0) (zA s0 1) (zA s0 3) (zA s0 4) (zA s0 5) (zA s0 7) o1 a1 (zI s1) (zL s1) (zA s1 5) o2 a2 (zI s2) (zL s2) (zA s2 1) (zA s2 2) (zA s2 3) (zA s2 6) (zA s2 7)) H) (hD : va_D A (wd_Creeps_gather cy o0 a0 (zI s0) (zL s0) (zA s0 1) (zA s0 3) (zA s0 4) (zA s0 5) (zA s0 7) o1 a1 (zI s1) (zL s1) (zA s1 5) o2 a2 (zI s2) (zL s2) (zA s2 1) (zA s2 2) (zA s2 3) (zA s2 6) (zA s2 7))) (hS : va_S A s.heap H locs) (hf : Creeps_gather_b75 N kh75 s0 s1 s2 v3 v4 = some y) (ls : Array Slot) (hl : lv_has ls 5 [(0, .ref o0), (2, .ref o2), (3, .int v3), (4, .int v4)]) : W p l e rm_Creeps_gather s m args below meth c H locs 0 0 (MQ below (zQv (dC, dI) cy (wd_Creeps_gather cy o0 a0 (zI y) (zL y) (zA y 1) (zA y 3) (zA y 4) (zA y 5) (zA y 7) o1 a1 (zI s1) (zL s1) (zA s1 5) o2 a2 (zI s2) (zL s2) (zA s2 1) (zA s2 2) (zA s2 3) (zA s2 6) (zA s2 7)) A) args s 0 0 A) (F0 m 75 ls []) := by
  obtain ⟨hx, hb, hr, hml, hown, hT, hk, hK⟩ := id C0
  refine lv_iload hx hb dX1_gather_75 (lv_at hl 3 rfl) ?_
  refine lv_aload_n hx hb dX1_gather_77 rfl (lv_at hl 1 rfl) ?_
  refine zget (v := .int (zI s2 0)) hx hb hown hT hK hP inX4 rfl smX4 8 rfl 0 (by decide) tb_207 rfl dX1_gather_78 ?_
  refine lv_icmp_ge (tgt := 172) hx hb dX1_gather_81 (by decide) (fun hb_1 => ?_) (fun hb_1 => ?_)
  · have hf := zif_t hb_1 hf
    cases hf
    exact zewv hx hb hr hk hK hP hD hS dX1_gather_172
  · have hf := zif_f hb_1 hf
    refine lv_aload_n hx hb dX1_gather_84 rfl (lv_at hl 1 rfl) ?_
    refine lv_iload hx hb dX1_gather_85 (lv_at hl 3 rfl) ?_
    obtain ⟨z2, hc3, hf⟩ := zbd_some hf
    refine zri (zV (As := [.int v4]) hx hb hml hown hT hl.1 (c_Entries_isSound o2 a2 s2 v4 hc3) zY_Entries_isSound tb_890 (zpR hK hP [8, 10] rfl 0 4 rfl rfl rfl) rm_ok_Creeps_gather_Entries_isSound rfl rfl (Nat.le_of_ble_eq_true rfl) dX1_gather_87 ⟨Nat.zero_le _, Nat.zero_le _⟩) ?_
    refine lv_if_ne (tgt := 166) hx hb dX1_gather_90 (by decide) (fun hb_4 => ?_) (fun hb_4 => ?_)
    · have hf := zif_f hb_4 hf
      exact k_Creeps_gather_b166 C0 s0 s1 s2 v3 v4 hk75 hA hP hD hS hf _ (lv_sub hl [0, 1, 2, 3] rfl)
    · have hf := zif_t hb_4 hf
      refine lv_aload_n hx hb dX1_gather_93 rfl (lv_at hl 1 rfl) ?_
      refine lv_iload hx hb dX1_gather_94 (lv_at hl 3 rfl) ?_
      refine lv_iload_n hx hb dX1_gather_96 rfl (lv_at hl 2 rfl) ?_
      obtain ⟨z5, hc6, hf⟩ := zbd_some hf
      refine zri (zV (As := [.int v4, .int v3]) hx hb hml hown hT hl.1 (c_Entries_counts o2 a2 s2 v4 v3 hc6) zY_Entries_counts tb_891 (zpR hK hP [8, 12, 13] rfl 0 4 rfl rfl rfl) rm_ok_Creeps_gather_Entries_counts rfl rfl (Nat.le_of_ble_eq_true rfl) dX1_gather_97 ⟨Nat.zero_le _, Nat.zero_le _⟩) ?_
      refine lv_if_eq (tgt := 166) hx hb dX1_gather_100 (by decide) (fun hb_7 => ?_) (fun hb_7 => ?_)
      · have hf := zif_t hb_7 hf
        exact k_Creeps_gather_b166 C0 s0 s1 s2 v3 v4 hk75 hA hP hD hS hf _ (lv_sub hl [0, 1, 2, 3] rfl)
      · have hf := zif_f hb_7 hf
        refine lv_aload_n hx hb dX1_gather_103 rfl (lv_at hl 0 rfl) ?_
        refine zget (v := .ref (a0 3)) hx hb hown hT hK hP inX1 rfl smX1 0 rfl 3 (by decide) tb_387 rfl dX1_gather_104 ?_
        refine lv_aload_n hx hb dX1_gather_107 rfl (lv_at hl 0 rfl) ?_
        refine zget (v := .int (zI s0 2)) hx hb hown hT hK hP inX1 rfl smX1 0 rfl 2 (by decide) tb_386 rfl dX1_gather_108 ?_
        refine lv_iload hx hb dX1_gather_111 (lv_at hl 3 rfl) ?_
        obtain ⟨hi8, hf⟩ := zck_some hf
        refine zast (ws' := (wd_Creeps_gather cy o0 a0 (zI s0) (zL s0) (zA s0 1) (upd (zA s0 3) (Int32.toNatClampNeg (zI s0 2)) v4) (zA s0 4) (zA s0 5) (zA s0 7) o1 a1 (zI s1) (zL s1) (zA s1 5) o2 a2 (zI s2) (zL s2) (zA s2 1) (zA s2 2) (zA s2 3) (zA s2 6) (zA s2 7))) hx hb hK hP hD hS 2 0 rfl rfl hi8 rfl dX1_gather_113 (fun H locs hP hD hS => ?_)
        refine lv_aload_n hx hb dX1_gather_114 rfl (lv_at hl 0 rfl) ?_
        refine zget (v := .ref (a0 4)) hx hb hown hT hK hP inX1 rfl smX1 0 rfl 4 (by decide) tb_388 rfl dX1_gather_115 ?_
        refine lv_aload_n hx hb dX1_gather_118 rfl (lv_at hl 0 rfl) ?_
        refine zget (v := .int (zI s0 2)) hx hb hown hT hK hP inX1 rfl smX1 0 rfl 2 (by decide) tb_386 rfl dX1_gather_119 ?_
        refine lv_aload_n hx hb dX1_gather_122 rfl (lv_at hl 1 rfl) ?_
        refine zget (v := .ref (a2 1)) hx hb hown hT hK hP inX4 rfl smX4 8 rfl 1 (by decide) tb_211 rfl dX1_gather_123 ?_
        refine lv_iload hx hb dX1_gather_126 (lv_at hl 3 rfl) ?_
        obtain ⟨hi9, hf⟩ := zck_some hf
        refine va_iald hx hb hK.1 hP 9 0 rfl rfl hi9 dX1_gather_128 ?_
        obtain ⟨hi10, hf⟩ := zck_some hf
        refine zast (ws' := (wd_Creeps_gather cy o0 a0 (zI s0) (zL s0) (zA s0 1) (upd (zA s0 3) (Int32.toNatClampNeg (zI s0 2)) v4) (upd (zA s0 4) (Int32.toNatClampNeg (zI s0 2)) ((zA s2 1) (Int32.toNatClampNeg v4))) (zA s0 5) (zA s0 7) o1 a1 (zI s1) (zL s1) (zA s1 5) o2 a2 (zI s2) (zL s2) (zA s2 1) (zA s2 2) (zA s2 3) (zA s2 6) (zA s2 7))) hx hb hK hP hD hS 3 0 rfl rfl hi10 rfl dX1_gather_129 (fun H locs hP hD hS => ?_)
        refine lv_aload_n hx hb dX1_gather_130 rfl (lv_at hl 0 rfl) ?_
        refine zget (v := .ref (a0 5)) hx hb hown hT hK hP inX1 rfl smX1 0 rfl 5 (by decide) tb_389 rfl dX1_gather_131 ?_
        refine lv_aload_n hx hb dX1_gather_134 rfl (lv_at hl 0 rfl) ?_
        refine zget (v := .int (zI s0 2)) hx hb hown hT hK hP inX1 rfl smX1 0 rfl 2 (by decide) tb_386 rfl dX1_gather_135 ?_
        refine lv_aload_n hx hb dX1_gather_138 rfl (lv_at hl 1 rfl) ?_
        refine zget (v := .ref (a2 3)) hx hb hown hT hK hP inX4 rfl smX4 8 rfl 3 (by decide) tb_217 rfl dX1_gather_139 ?_
        refine lv_iload hx hb dX1_gather_142 (lv_at hl 3 rfl) ?_
        obtain ⟨hi11, hf⟩ := zck_some hf
        refine va_iald hx hb hK.1 hP 11 0 rfl rfl hi11 dX1_gather_144 ?_
        obtain ⟨hi12, hf⟩ := zck_some hf
        refine zast (ws' := (wd_Creeps_gather cy o0 a0 (zI s0) (zL s0) (zA s0 1) (upd (zA s0 3) (Int32.toNatClampNeg (zI s0 2)) v4) (upd (zA s0 4) (Int32.toNatClampNeg (zI s0 2)) ((zA s2 1) (Int32.toNatClampNeg v4))) (upd (zA s0 5) (Int32.toNatClampNeg (zI s0 2)) ((zA s2 3) (Int32.toNatClampNeg v4))) (zA s0 7) o1 a1 (zI s1) (zL s1) (zA s1 5) o2 a2 (zI s2) (zL s2) (zA s2 1) (zA s2 2) (zA s2 3) (zA s2 6) (zA s2 7))) hx hb hK hP hD hS 4 0 rfl rfl hi12 rfl dX1_gather_145 (fun H locs hP hD hS => ?_)
        refine lv_aload_n hx hb dX1_gather_146 rfl (lv_at hl 0 rfl) ?_
        refine zget (v := .ref (a0 7)) hx hb hown hT hK hP inX1 rfl smX1 0 rfl 7 (by decide) tb_391 rfl dX1_gather_147 ?_
        refine lv_aload_n hx hb dX1_gather_150 rfl (lv_at hl 0 rfl) ?_
        refine zget (v := .int (zI s0 2)) hx hb hown hT hK hP inX1 rfl smX1 0 rfl 2 (by decide) tb_386 rfl dX1_gather_151 ?_
        refine lv_iconst (v := 0) hx hb dX1_gather_154 (by decide) ?_
        obtain ⟨hi13, hf⟩ := zck_some hf
        refine zast (ws' := (wd_Creeps_gather cy o0 a0 (zI s0) (zL s0) (zA s0 1) (upd (zA s0 3) (Int32.toNatClampNeg (zI s0 2)) v4) (upd (zA s0 4) (Int32.toNatClampNeg (zI s0 2)) ((zA s2 1) (Int32.toNatClampNeg v4))) (upd (zA s0 5) (Int32.toNatClampNeg (zI s0 2)) ((zA s2 3) (Int32.toNatClampNeg v4))) (upd (zA s0 7) (Int32.toNatClampNeg (zI s0 2)) 0) o1 a1 (zI s1) (zL s1) (zA s1 5) o2 a2 (zI s2) (zL s2) (zA s2 1) (zA s2 2) (zA s2 3) (zA s2 6) (zA s2 7))) hx hb hK hP hD hS 5 0 rfl rfl hi13 rfl dX1_gather_155 (fun H locs hP hD hS => ?_)
        refine lv_aload_n hx hb dX1_gather_156 rfl (lv_at hl 0 rfl) ?_
        refine lv_dup hx hb dX1_gather_157 rfl ?_
        refine zget (v := .int (zI s0 2)) hx hb hown hT hK hP inX1 rfl smX1 0 rfl 2 (by decide) tb_386 rfl dX1_gather_158 ?_
        refine lv_iconst (v := 1) hx hb dX1_gather_161 (by decide) ?_
        refine lv_iadd hx hb dX1_gather_162 ?_
        refine zput (fs' := fs_Creeps a0 (upd (zI s0) 2 ((zI s0 2) + 1)) (zL s0)) (ws' := (wd_Creeps_gather cy o0 a0 (upd (zI s0) 2 ((zI s0 2) + 1)) (zL s0) (zA s0 1) (upd (zA s0 3) (Int32.toNatClampNeg (zI s0 2)) v4) (upd (zA s0 4) (Int32.toNatClampNeg (zI s0 2)) ((zA s2 1) (Int32.toNatClampNeg v4))) (upd (zA s0 5) (Int32.toNatClampNeg (zI s0 2)) ((zA s2 3) (Int32.toNatClampNeg v4))) (upd (zA s0 7) (Int32.toNatClampNeg (zI s0 2)) 0) o1 a1 (zI s1) (zL s1) (zA s1 5) o2 a2 (zI s2) (zL s2) (zA s2 1) (zA s2 2) (zA s2 3) (zA s2 6) (zA s2 7))) hx hb hown hT hK hP hD hS inX1 rfl smX1 tyX1_ok nmX1 0 rfl 2 (by decide) tb_386 rfl rfl rfl (Nat.le_of_ble_eq_true rfl) rfl rfl dX1_gather_163 (fun H locs hP hD hS => ?_)
        exact k_Creeps_gather_b166 C0 (zpI (zsA (zsA (zsA (zsA s0 3 (upd (zA s0 3) (Int32.toNatClampNeg (zI s0 2)) v4)) 4 (upd (zA s0 4) (Int32.toNatClampNeg (zI s0 2)) ((zA s2 1) (Int32.toNatClampNeg v4)))) 5 (upd (zA s0 5) (Int32.toNatClampNeg (zI s0 2)) ((zA s2 3) (Int32.toNatClampNeg v4)))) 7 (upd (zA s0 7) (Int32.toNatClampNeg (zI s0 2)) 0)) 2 ((zI s0 2) + 1)) s1 s2 v3 v4 hk75 hA hP hD hS hf _ (lv_sub hl [0, 1, 2, 3] rfl)
set_option maxHeartbeats 4000000 in
set_option maxRecDepth 100000 in
theorem k_Creeps_gather_h75 {p : Program} {l : Launch} {e : Env} {s : State} {m : MethodId} {args : Array Value} {below : List Frame} {meth : Method} {c : Code} {dC : Nat → ClassId} {dI : Nat → Nat → Nat} {cy : Nat → ClassId} {A : Nat → Prop} {o0 : Nat} {a0 : Nat → Nat} {o1 : Nat} {a1 : Nat → Nat} {o2 : Nat} {a2 : Nat → Nat} {N : Nat} {y : zSt} (C0 : zCx p s m args meth c cX1_gather 5 none RX1 (dC, dI) cy) (s1 : zSt) (s2 : zSt) (v3 : Int32) (hA : ∀ q, s.heap.size ≤ q → A q) : ∀ (n : Nat) (s0 : zSt) (v4 : Int32) {H : Heap} {locs : List Loc} (hP : va_P (dC, dI) vwCl (wd_Creeps_gather cy o0 a0 (zI s0) (zL s0) (zA s0 1) (zA s0 3) (zA s0 4) (zA s0 5) (zA s0 7) o1 a1 (zI s1) (zL s1) (zA s1 5) o2 a2 (zI s2) (zL s2) (zA s2 1) (zA s2 2) (zA s2 3) (zA s2 6) (zA s2 7)) H) (hD : va_D A (wd_Creeps_gather cy o0 a0 (zI s0) (zL s0) (zA s0 1) (zA s0 3) (zA s0 4) (zA s0 5) (zA s0 7) o1 a1 (zI s1) (zL s1) (zA s1 5) o2 a2 (zI s2) (zL s2) (zA s2 1) (zA s2 2) (zA s2 3) (zA s2 6) (zA s2 7))) (hS : va_S A s.heap H locs) (hf : Creeps_gather_h75 N s1 s2 v3 n s0 v4 = some y) (ls : Array Slot) (hl : lv_has ls 5 [(0, .ref o0), (2, .ref o2), (3, .int v3), (4, .int v4)]), W p l e rm_Creeps_gather s m args below meth c H locs 0 0 (MQ below (zQv (dC, dI) cy (wd_Creeps_gather cy o0 a0 (zI y) (zL y) (zA y 1) (zA y 3) (zA y 4) (zA y 5) (zA y 7) o1 a1 (zI s1) (zL s1) (zA s1 5) o2 a2 (zI s2) (zL s2) (zA s2 1) (zA s2 2) (zA s2 3) (zA s2 6) (zA s2 7)) A) args s 0 0 A) (F0 m 75 ls []) := by
  intro n
  induction n with
  | zero => intro s0 v4 H locs hP hD hS hf; cases hf
  | succ n ih =>
    intro s0 v4 H locs hP hD hS hf ls hl
    have hf : Creeps_gather_b75 N (Creeps_gather_h75 N s1 s2 v3 n) s0 s1 s2 v3 v4 = some y := hf
    exact k_Creeps_gather_b75 C0 s0 s1 s2 v3 v4 (fun s0 v4 _ _ hP hD hS hf ls hl => ih s0 v4 hP hD hS hf ls hl) hA hP hD hS hf ls hl
set_option maxHeartbeats 4000000 in
set_option maxRecDepth 100000 in
theorem k_Creeps_gather_b67 {p : Program} {l : Launch} {e : Env} {s : State} {m : MethodId} {args : Array Value} {below : List Frame} {meth : Method} {c : Code} {dC : Nat → ClassId} {dI : Nat → Nat → Nat} {cy : Nat → ClassId} {A : Nat → Prop} {o0 : Nat} {a0 : Nat → Nat} {o1 : Nat} {a1 : Nat → Nat} {o2 : Nat} {a2 : Nat → Nat} {N : Nat} {y : zSt} (C0 : zCx p s m args meth c cX1_gather 5 none RX1 (dC, dI) cy) (s0 : zSt) (s1 : zSt) (s2 : zSt) (v3 : Int32) (hA : ∀ q, s.heap.size ≤ q → A q) {H : Heap} {locs : List Loc} (hP : va_P (dC, dI) vwCl (wd_Creeps_gather cy o0 a0 (zI s0) (zL s0) (zA s0 1) (zA s0 3) (zA s0 4) (zA s0 5) (zA s0 7) o1 a1 (zI s1) (zL s1) (zA s1 5) o2 a2 (zI s2) (zL s2) (zA s2 1) (zA s2 2) (zA s2 3) (zA s2 6) (zA s2 7)) H) (hD : va_D A (wd_Creeps_gather cy o0 a0 (zI s0) (zL s0) (zA s0 1) (zA s0 3) (zA s0 4) (zA s0 5) (zA s0 7) o1 a1 (zI s1) (zL s1) (zA s1 5) o2 a2 (zI s2) (zL s2) (zA s2 1) (zA s2 2) (zA s2 3) (zA s2 6) (zA s2 7))) (hS : va_S A s.heap H locs) (hf : Creeps_gather_b67 N s0 s1 s2 v3 = some y) (ls : Array Slot) (hl : lv_has ls 5 [(0, .ref o0), (2, .ref o2), (3, .int v3)]) : W p l e rm_Creeps_gather s m args below meth c H locs 0 0 (MQ below (zQv (dC, dI) cy (wd_Creeps_gather cy o0 a0 (zI y) (zL y) (zA y 1) (zA y 3) (zA y 4) (zA y 5) (zA y 7) o1 a1 (zI s1) (zL s1) (zA s1 5) o2 a2 (zI s2) (zL s2) (zA s2 1) (zA s2 2) (zA s2 3) (zA s2 6) (zA s2 7)) A) args s 0 0 A) (F0 m 67 ls []) := by
  obtain ⟨hx, hb, hr, hml, hown, hT, hk, hK⟩ := id C0
  refine lv_aload_n hx hb dX1_gather_67 rfl (lv_at hl 0 rfl) ?_
  refine lv_iconst (v := 0) hx hb dX1_gather_68 (by decide) ?_
  refine zput (fs' := fs_Creeps a0 (upd (zI s0) 2 0) (zL s0)) (ws' := (wd_Creeps_gather cy o0 a0 (upd (zI s0) 2 0) (zL s0) (zA s0 1) (zA s0 3) (zA s0 4) (zA s0 5) (zA s0 7) o1 a1 (zI s1) (zL s1) (zA s1 5) o2 a2 (zI s2) (zL s2) (zA s2 1) (zA s2 2) (zA s2 3) (zA s2 6) (zA s2 7))) hx hb hown hT hK hP hD hS inX1 rfl smX1 tyX1_ok nmX1 0 rfl 2 (by decide) tb_386 rfl rfl rfl (Nat.le_of_ble_eq_true rfl) rfl rfl dX1_gather_69 (fun H locs hP hD hS => ?_)
  refine lv_iconst (v := 0) hx hb dX1_gather_72 (by decide) ?_
  refine lv_istore (lv' := [(4, .int 0), (0, .ref o0), (2, .ref o2), (3, .int v3)]) hx hb dX1_gather_73 hl (by decide) rfl (fun ls hl => ?_)
  exact k_Creeps_gather_h75 C0 s1 s2 v3  hA N (zpI s0 2 0) 0 hP hD hS hf _ (lv_sub hl [1, 2, 3, 0] rfl)
set_option maxHeartbeats 4000000 in
set_option maxRecDepth 100000 in
theorem k_Creeps_gather_b61 {p : Program} {l : Launch} {e : Env} {s : State} {m : MethodId} {args : Array Value} {below : List Frame} {meth : Method} {c : Code} {dC : Nat → ClassId} {dI : Nat → Nat → Nat} {cy : Nat → ClassId} {A : Nat → Prop} {o0 : Nat} {a0 : Nat → Nat} {o1 : Nat} {a1 : Nat → Nat} {o2 : Nat} {a2 : Nat → Nat} {N : Nat} {kh8 : zSt → Int32 → Option (zSt)} {y : zSt} (C0 : zCx p s m args meth c cX1_gather 5 none RX1 (dC, dI) cy) (s0 : zSt) (s1 : zSt) (s2 : zSt) (v3 : Int32) (v4 : Int32) (hk8 : ∀ (s0 : zSt) (v4 : Int32) {H : Heap} {locs : List Loc} (_ : va_P (dC, dI) vwCl (wd_Creeps_gather cy o0 a0 (zI s0) (zL s0) (zA s0 1) (zA s0 3) (zA s0 4) (zA s0 5) (zA s0 7) o1 a1 (zI s1) (zL s1) (zA s1 5) o2 a2 (zI s2) (zL s2) (zA s2 1) (zA s2 2) (zA s2 3) (zA s2 6) (zA s2 7)) H) (_ : va_D A (wd_Creeps_gather cy o0 a0 (zI s0) (zL s0) (zA s0 1) (zA s0 3) (zA s0 4) (zA s0 5) (zA s0 7) o1 a1 (zI s1) (zL s1) (zA s1 5) o2 a2 (zI s2) (zL s2) (zA s2 1) (zA s2 2) (zA s2 3) (zA s2 6) (zA s2 7))) (_ : va_S A s.heap H locs) (_ : kh8 s0 v4 = some y) (ls : Array Slot) (_ : lv_has ls 5 [(0, .ref o0), (1, .ref o1), (2, .ref o2), (3, .int v3), (4, .int v4)]), W p l e rm_Creeps_gather s m args below meth c H locs 0 0 (MQ below (zQv (dC, dI) cy (wd_Creeps_gather cy o0 a0 (zI y) (zL y) (zA y 1) (zA y 3) (zA y 4) (zA y 5) (zA y 7) o1 a1 (zI s1) (zL s1) (zA s1 5) o2 a2 (zI s2) (zL s2) (zA s2 1) (zA s2 2) (zA s2 3) (zA s2 6) (zA s2 7)) A) args s 0 0 A) (F0 m 8 ls [])) (hA : ∀ q, s.heap.size ≤ q → A q) {H : Heap} {locs : List Loc} (hP : va_P (dC, dI) vwCl (wd_Creeps_gather cy o0 a0 (zI s0) (zL s0) (zA s0 1) (zA s0 3) (zA s0 4) (zA s0 5) (zA s0 7) o1 a1 (zI s1) (zL s1) (zA s1 5) o2 a2 (zI s2) (zL s2) (zA s2 1) (zA s2 2) (zA s2 3) (zA s2 6) (zA s2 7)) H) (hD : va_D A (wd_Creeps_gather cy o0 a0 (zI s0) (zL s0) (zA s0 1) (zA s0 3) (zA s0 4) (zA s0 5) (zA s0 7) o1 a1 (zI s1) (zL s1) (zA s1 5) o2 a2 (zI s2) (zL s2) (zA s2 1) (zA s2 2) (zA s2 3) (zA s2 6) (zA s2 7))) (hS : va_S A s.heap H locs) (hf : Creeps_gather_b61 N kh8 s0 s1 s2 v3 v4 = some y) (ls : Array Slot) (hl : lv_has ls 5 [(0, .ref o0), (1, .ref o1), (2, .ref o2), (3, .int v3), (4, .int v4)]) : W p l e rm_Creeps_gather s m args below meth c H locs 0 0 (MQ below (zQv (dC, dI) cy (wd_Creeps_gather cy o0 a0 (zI y) (zL y) (zA y 1) (zA y 3) (zA y 4) (zA y 5) (zA y 7) o1 a1 (zI s1) (zL s1) (zA s1 5) o2 a2 (zI s2) (zL s2) (zA s2 1) (zA s2 2) (zA s2 3) (zA s2 6) (zA s2 7)) A) args s 0 0 A) (F0 m 61 ls []) := by
  obtain ⟨hx, hb, hr, hml, hown, hT, hk, hK⟩ := id C0
  refine lv_iinc (v := v4 + 1) (lv' := [(4, .int (v4 + 1)), (0, .ref o0), (1, .ref o1), (2, .ref o2), (3, .int v3)]) hx hb dX1_gather_61 hl (k := 4) rfl rfl (by decide) rfl (fun ls hl => ?_)
  refine lv_goto (tgt := 8) hx hb dX1_gather_64 (by decide) ?_
  exact hk8 s0 (v4 + 1) hP hD hS hf _ (lv_sub hl [1, 2, 3, 4, 0] rfl)
set_option maxHeartbeats 4000000 in
set_option maxRecDepth 100000 in
theorem k_Creeps_gather_b8 {p : Program} {l : Launch} {e : Env} {s : State} {m : MethodId} {args : Array Value} {below : List Frame} {meth : Method} {c : Code} {dC : Nat → ClassId} {dI : Nat → Nat → Nat} {cy : Nat → ClassId} {A : Nat → Prop} {o0 : Nat} {a0 : Nat → Nat} {o1 : Nat} {a1 : Nat → Nat} {o2 : Nat} {a2 : Nat → Nat} {N : Nat} {kh8 : zSt → Int32 → Option (zSt)} {y : zSt} (C0 : zCx p s m args meth c cX1_gather 5 none RX1 (dC, dI) cy) (s0 : zSt) (s1 : zSt) (s2 : zSt) (v3 : Int32) (v4 : Int32) (hk8 : ∀ (s0 : zSt) (v4 : Int32) {H : Heap} {locs : List Loc} (_ : va_P (dC, dI) vwCl (wd_Creeps_gather cy o0 a0 (zI s0) (zL s0) (zA s0 1) (zA s0 3) (zA s0 4) (zA s0 5) (zA s0 7) o1 a1 (zI s1) (zL s1) (zA s1 5) o2 a2 (zI s2) (zL s2) (zA s2 1) (zA s2 2) (zA s2 3) (zA s2 6) (zA s2 7)) H) (_ : va_D A (wd_Creeps_gather cy o0 a0 (zI s0) (zL s0) (zA s0 1) (zA s0 3) (zA s0 4) (zA s0 5) (zA s0 7) o1 a1 (zI s1) (zL s1) (zA s1 5) o2 a2 (zI s2) (zL s2) (zA s2 1) (zA s2 2) (zA s2 3) (zA s2 6) (zA s2 7))) (_ : va_S A s.heap H locs) (_ : kh8 s0 v4 = some y) (ls : Array Slot) (_ : lv_has ls 5 [(0, .ref o0), (1, .ref o1), (2, .ref o2), (3, .int v3), (4, .int v4)]), W p l e rm_Creeps_gather s m args below meth c H locs 0 0 (MQ below (zQv (dC, dI) cy (wd_Creeps_gather cy o0 a0 (zI y) (zL y) (zA y 1) (zA y 3) (zA y 4) (zA y 5) (zA y 7) o1 a1 (zI s1) (zL s1) (zA s1 5) o2 a2 (zI s2) (zL s2) (zA s2 1) (zA s2 2) (zA s2 3) (zA s2 6) (zA s2 7)) A) args s 0 0 A) (F0 m 8 ls [])) (hA : ∀ q, s.heap.size ≤ q → A q) {H : Heap} {locs : List Loc} (hP : va_P (dC, dI) vwCl (wd_Creeps_gather cy o0 a0 (zI s0) (zL s0) (zA s0 1) (zA s0 3) (zA s0 4) (zA s0 5) (zA s0 7) o1 a1 (zI s1) (zL s1) (zA s1 5) o2 a2 (zI s2) (zL s2) (zA s2 1) (zA s2 2) (zA s2 3) (zA s2 6) (zA s2 7)) H) (hD : va_D A (wd_Creeps_gather cy o0 a0 (zI s0) (zL s0) (zA s0 1) (zA s0 3) (zA s0 4) (zA s0 5) (zA s0 7) o1 a1 (zI s1) (zL s1) (zA s1 5) o2 a2 (zI s2) (zL s2) (zA s2 1) (zA s2 2) (zA s2 3) (zA s2 6) (zA s2 7))) (hS : va_S A s.heap H locs) (hf : Creeps_gather_b8 N kh8 s0 s1 s2 v3 v4 = some y) (ls : Array Slot) (hl : lv_has ls 5 [(0, .ref o0), (1, .ref o1), (2, .ref o2), (3, .int v3), (4, .int v4)]) : W p l e rm_Creeps_gather s m args below meth c H locs 0 0 (MQ below (zQv (dC, dI) cy (wd_Creeps_gather cy o0 a0 (zI y) (zL y) (zA y 1) (zA y 3) (zA y 4) (zA y 5) (zA y 7) o1 a1 (zI s1) (zL s1) (zA s1 5) o2 a2 (zI s2) (zL s2) (zA s2 1) (zA s2 2) (zA s2 3) (zA s2 6) (zA s2 7)) A) args s 0 0 A) (F0 m 8 ls []) := by
  obtain ⟨hx, hb, hr, hml, hown, hT, hk, hK⟩ := id C0
  refine lv_iload hx hb dX1_gather_8 (lv_at hl 4 rfl) ?_
  refine lv_aload_n hx hb dX1_gather_10 rfl (lv_at hl 1 rfl) ?_
  refine zget (v := .int (zI s1 3)) hx hb hown hT hK hP inX9 rfl smX9 6 rfl 3 (by decide) tb_102 rfl dX1_gather_11 ?_
  refine lv_icmp_ge (tgt := 67) hx hb dX1_gather_14 (by decide) (fun hb_1 => ?_) (fun hb_1 => ?_)
  · have hf := zif_t hb_1 hf
    exact k_Creeps_gather_b67 C0 s0 s1 s2 v3  hA hP hD hS hf _ (lv_sub hl [0, 2, 3] rfl)
  · have hf := zif_f hb_1 hf
    refine lv_aload_n hx hb dX1_gather_17 rfl (lv_at hl 0 rfl) ?_
    refine zget (v := .int (zI s0 0)) hx hb hown hT hK hP inX1 rfl smX1 0 rfl 0 (by decide) tb_384 rfl dX1_gather_18 ?_
    refine lv_bipush (v := 8) hx hb dX1_gather_21 (by decide) ?_
    refine lv_icmp_ge (tgt := 67) hx hb dX1_gather_23 (by decide) (fun hb_2 => ?_) (fun hb_2 => ?_)
    · have hf := zif_t hb_2 hf
      exact k_Creeps_gather_b67 C0 s0 s1 s2 v3  hA hP hD hS hf _ (lv_sub hl [0, 2, 3] rfl)
    · have hf := zif_f hb_2 hf
      refine lv_aload_n hx hb dX1_gather_26 rfl (lv_at hl 1 rfl) ?_
      refine lv_iload hx hb dX1_gather_27 (lv_at hl 4 rfl) ?_
      obtain ⟨z3, hc4, hf⟩ := zbd_some hf
      refine zri (zV (As := [.int v4]) hx hb hml hown hT hl.1 (c_Valley_isBeast o1 a1 s1 v4 hc4) zY_Valley_isBeast tb_889 (zpR hK hP [6] rfl 0 9 rfl rfl rfl) rm_ok_Creeps_gather_Valley_isBeast rfl rfl (Nat.le_of_ble_eq_true rfl) dX1_gather_29 ⟨Nat.zero_le _, Nat.zero_le _⟩) ?_
      refine lv_if_eq (tgt := 61) hx hb dX1_gather_32 (by decide) (fun hb_5 => ?_) (fun hb_5 => ?_)
      · have hf := zif_t hb_5 hf
        exact k_Creeps_gather_b61 C0 s0 s1 s2 v3 v4 hk8 hA hP hD hS hf _ (lv_sub hl [0, 1, 2, 3, 4] rfl)
      · have hf := zif_f hb_5 hf
        refine lv_aload_n hx hb dX1_gather_35 rfl (lv_at hl 0 rfl) ?_
        refine zget (v := .ref (a0 1)) hx hb hown hT hK hP inX1 rfl smX1 0 rfl 1 (by decide) tb_385 rfl dX1_gather_36 ?_
        refine lv_aload_n hx hb dX1_gather_39 rfl (lv_at hl 0 rfl) ?_
        refine zget (v := .int (zI s0 0)) hx hb hown hT hK hP inX1 rfl smX1 0 rfl 0 (by decide) tb_384 rfl dX1_gather_40 ?_
        refine lv_aload_n hx hb dX1_gather_43 rfl (lv_at hl 1 rfl) ?_
        refine zget (v := .ref (a1 5)) hx hb hown hT hK hP inX9 rfl smX9 6 rfl 5 (by decide) tb_111 rfl dX1_gather_44 ?_
        refine lv_iload hx hb dX1_gather_47 (lv_at hl 4 rfl) ?_
        obtain ⟨hi6, hf⟩ := zck_some hf
        refine va_iald hx hb hK.1 hP 7 0 rfl rfl hi6 dX1_gather_49 ?_
        obtain ⟨hi7, hf⟩ := zck_some hf
        refine zast (ws' := (wd_Creeps_gather cy o0 a0 (zI s0) (zL s0) (upd (zA s0 1) (Int32.toNatClampNeg (zI s0 0)) ((zA s1 5) (Int32.toNatClampNeg v4))) (zA s0 3) (zA s0 4) (zA s0 5) (zA s0 7) o1 a1 (zI s1) (zL s1) (zA s1 5) o2 a2 (zI s2) (zL s2) (zA s2 1) (zA s2 2) (zA s2 3) (zA s2 6) (zA s2 7))) hx hb hK hP hD hS 1 0 rfl rfl hi7 rfl dX1_gather_50 (fun H locs hP hD hS => ?_)
        refine lv_aload_n hx hb dX1_gather_51 rfl (lv_at hl 0 rfl) ?_
        refine lv_dup hx hb dX1_gather_52 rfl ?_
        refine zget (v := .int (zI s0 0)) hx hb hown hT hK hP inX1 rfl smX1 0 rfl 0 (by decide) tb_384 rfl dX1_gather_53 ?_
        refine lv_iconst (v := 1) hx hb dX1_gather_56 (by decide) ?_
        refine lv_iadd hx hb dX1_gather_57 ?_
        refine zput (fs' := fs_Creeps a0 (upd (zI s0) 0 ((zI s0 0) + 1)) (zL s0)) (ws' := (wd_Creeps_gather cy o0 a0 (upd (zI s0) 0 ((zI s0 0) + 1)) (zL s0) (upd (zA s0 1) (Int32.toNatClampNeg (zI s0 0)) ((zA s1 5) (Int32.toNatClampNeg v4))) (zA s0 3) (zA s0 4) (zA s0 5) (zA s0 7) o1 a1 (zI s1) (zL s1) (zA s1 5) o2 a2 (zI s2) (zL s2) (zA s2 1) (zA s2 2) (zA s2 3) (zA s2 6) (zA s2 7))) hx hb hown hT hK hP hD hS inX1 rfl smX1 tyX1_ok nmX1 0 rfl 0 (by decide) tb_384 rfl rfl rfl (Nat.le_of_ble_eq_true rfl) rfl rfl dX1_gather_58 (fun H locs hP hD hS => ?_)
        exact k_Creeps_gather_b61 C0 (zpI (zsA s0 1 (upd (zA s0 1) (Int32.toNatClampNeg (zI s0 0)) ((zA s1 5) (Int32.toNatClampNeg v4)))) 0 ((zI s0 0) + 1)) s1 s2 v3 v4 hk8 hA hP hD hS hf _ (lv_sub hl [0, 1, 2, 3, 4] rfl)
set_option maxHeartbeats 4000000 in
set_option maxRecDepth 100000 in
theorem k_Creeps_gather_h8 {p : Program} {l : Launch} {e : Env} {s : State} {m : MethodId} {args : Array Value} {below : List Frame} {meth : Method} {c : Code} {dC : Nat → ClassId} {dI : Nat → Nat → Nat} {cy : Nat → ClassId} {A : Nat → Prop} {o0 : Nat} {a0 : Nat → Nat} {o1 : Nat} {a1 : Nat → Nat} {o2 : Nat} {a2 : Nat → Nat} {N : Nat} {y : zSt} (C0 : zCx p s m args meth c cX1_gather 5 none RX1 (dC, dI) cy) (s1 : zSt) (s2 : zSt) (v3 : Int32) (hA : ∀ q, s.heap.size ≤ q → A q) : ∀ (n : Nat) (s0 : zSt) (v4 : Int32) {H : Heap} {locs : List Loc} (hP : va_P (dC, dI) vwCl (wd_Creeps_gather cy o0 a0 (zI s0) (zL s0) (zA s0 1) (zA s0 3) (zA s0 4) (zA s0 5) (zA s0 7) o1 a1 (zI s1) (zL s1) (zA s1 5) o2 a2 (zI s2) (zL s2) (zA s2 1) (zA s2 2) (zA s2 3) (zA s2 6) (zA s2 7)) H) (hD : va_D A (wd_Creeps_gather cy o0 a0 (zI s0) (zL s0) (zA s0 1) (zA s0 3) (zA s0 4) (zA s0 5) (zA s0 7) o1 a1 (zI s1) (zL s1) (zA s1 5) o2 a2 (zI s2) (zL s2) (zA s2 1) (zA s2 2) (zA s2 3) (zA s2 6) (zA s2 7))) (hS : va_S A s.heap H locs) (hf : Creeps_gather_h8 N s1 s2 v3 n s0 v4 = some y) (ls : Array Slot) (hl : lv_has ls 5 [(0, .ref o0), (1, .ref o1), (2, .ref o2), (3, .int v3), (4, .int v4)]), W p l e rm_Creeps_gather s m args below meth c H locs 0 0 (MQ below (zQv (dC, dI) cy (wd_Creeps_gather cy o0 a0 (zI y) (zL y) (zA y 1) (zA y 3) (zA y 4) (zA y 5) (zA y 7) o1 a1 (zI s1) (zL s1) (zA s1 5) o2 a2 (zI s2) (zL s2) (zA s2 1) (zA s2 2) (zA s2 3) (zA s2 6) (zA s2 7)) A) args s 0 0 A) (F0 m 8 ls []) := by
  intro n
  induction n with
  | zero => intro s0 v4 H locs hP hD hS hf; cases hf
  | succ n ih =>
    intro s0 v4 H locs hP hD hS hf ls hl
    have hf : Creeps_gather_b8 N (Creeps_gather_h8 N s1 s2 v3 n) s0 s1 s2 v3 v4 = some y := hf
    exact k_Creeps_gather_b8 C0 s0 s1 s2 v3 v4 (fun s0 v4 _ _ hP hD hS hf ls hl => ih s0 v4 hP hD hS hf ls hl) hA hP hD hS hf ls hl
set_option maxHeartbeats 4000000 in
set_option maxRecDepth 100000 in
theorem k_Creeps_gather_b0 {p : Program} {l : Launch} {e : Env} {s : State} {m : MethodId} {args : Array Value} {below : List Frame} {meth : Method} {c : Code} {dC : Nat → ClassId} {dI : Nat → Nat → Nat} {cy : Nat → ClassId} {A : Nat → Prop} {o0 : Nat} {a0 : Nat → Nat} {o1 : Nat} {a1 : Nat → Nat} {o2 : Nat} {a2 : Nat → Nat} {N : Nat} {y : zSt} (C0 : zCx p s m args meth c cX1_gather 5 none RX1 (dC, dI) cy) (s0 : zSt) (s1 : zSt) (s2 : zSt) (v3 : Int32) (hA : ∀ q, s.heap.size ≤ q → A q) {H : Heap} {locs : List Loc} (hP : va_P (dC, dI) vwCl (wd_Creeps_gather cy o0 a0 (zI s0) (zL s0) (zA s0 1) (zA s0 3) (zA s0 4) (zA s0 5) (zA s0 7) o1 a1 (zI s1) (zL s1) (zA s1 5) o2 a2 (zI s2) (zL s2) (zA s2 1) (zA s2 2) (zA s2 3) (zA s2 6) (zA s2 7)) H) (hD : va_D A (wd_Creeps_gather cy o0 a0 (zI s0) (zL s0) (zA s0 1) (zA s0 3) (zA s0 4) (zA s0 5) (zA s0 7) o1 a1 (zI s1) (zL s1) (zA s1 5) o2 a2 (zI s2) (zL s2) (zA s2 1) (zA s2 2) (zA s2 3) (zA s2 6) (zA s2 7))) (hS : va_S A s.heap H locs) (hf : Creeps_gather_b0 N s0 s1 s2 v3 = some y) (ls : Array Slot) (hl : lv_has ls 5 [(0, .ref o0), (1, .ref o1), (2, .ref o2), (3, .int v3)]) : W p l e rm_Creeps_gather s m args below meth c H locs 0 0 (MQ below (zQv (dC, dI) cy (wd_Creeps_gather cy o0 a0 (zI y) (zL y) (zA y 1) (zA y 3) (zA y 4) (zA y 5) (zA y 7) o1 a1 (zI s1) (zL s1) (zA s1 5) o2 a2 (zI s2) (zL s2) (zA s2 1) (zA s2 2) (zA s2 3) (zA s2 6) (zA s2 7)) A) args s 0 0 A) (F0 m 0 ls []) := by
  obtain ⟨hx, hb, hr, hml, hown, hT, hk, hK⟩ := id C0
  refine lv_aload_n hx hb dX1_gather_0 rfl (lv_at hl 0 rfl) ?_
  refine lv_iconst (v := 0) hx hb dX1_gather_1 (by decide) ?_
  refine zput (fs' := fs_Creeps a0 (upd (zI s0) 0 0) (zL s0)) (ws' := (wd_Creeps_gather cy o0 a0 (upd (zI s0) 0 0) (zL s0) (zA s0 1) (zA s0 3) (zA s0 4) (zA s0 5) (zA s0 7) o1 a1 (zI s1) (zL s1) (zA s1 5) o2 a2 (zI s2) (zL s2) (zA s2 1) (zA s2 2) (zA s2 3) (zA s2 6) (zA s2 7))) hx hb hown hT hK hP hD hS inX1 rfl smX1 tyX1_ok nmX1 0 rfl 0 (by decide) tb_384 rfl rfl rfl (Nat.le_of_ble_eq_true rfl) rfl rfl dX1_gather_2 (fun H locs hP hD hS => ?_)
  refine lv_iconst (v := 0) hx hb dX1_gather_5 (by decide) ?_
  refine lv_istore (lv' := [(4, .int 0), (0, .ref o0), (1, .ref o1), (2, .ref o2), (3, .int v3)]) hx hb dX1_gather_6 hl (by decide) rfl (fun ls hl => ?_)
  exact k_Creeps_gather_h8 C0 s1 s2 v3  hA N (zpI s0 0 0) 0 hP hD hS hf _ (lv_sub hl [1, 2, 3, 4, 0] rfl)
set_option maxHeartbeats 4000000 in
set_option maxRecDepth 100000 in
theorem c_Creeps_gather {l : Launch} {dC : Nat → ClassId} {dI : Nat → Nat → Nat} {cy : Nat → ClassId} {sz : Nat} {N : Nat} (o0 : Nat) (a0 : Nat → Nat) (s0 : zSt) (o1 : Nat) (a1 : Nat → Nat) (s1 : zSt) (o2 : Nat) (a2 : Nat → Nat) (s2 : zSt) (v3 : Int32) {y : zSt} (hf : Creeps_gather N s0 s1 s2 v3 = some y) : Met l yX1_gather (.code yX1_gather cX1_gather 5 none :: zt) rm_Creeps_gather (va_Pc [.ref o0, .ref o1, .ref o2, .int v3] (zPre (dC, dI) cy (wd_Creeps_gather cy o0 a0 (zI s0) (zL s0) (zA s0 1) (zA s0 3) (zA s0 4) (zA s0 5) (zA s0 7) o1 a1 (zI s1) (zL s1) (zA s1 5) o2 a2 (zI s2) (zL s2) (zA s2 1) (zA s2 2) (zA s2 3) (zA s2 6) (zA s2 7)) sz)) (zQv (dC, dI) cy (wd_Creeps_gather cy o0 a0 (zI y) (zL y) (zA y 1) (zA y 3) (zA y 4) (zA y 5) (zA y 7) o1 a1 (zI s1) (zL s1) (zA s1 5) o2 a2 (zI s2) (zL s2) (zA s2 1) (zA s2 2) (zA s2 3) (zA s2 6) (zA s2 7)) (va_A (wd_Creeps_gather cy o0 a0 (zI s0) (zL s0) (zA s0 1) (zA s0 3) (zA s0 4) (zA s0 5) (zA s0 7) o1 a1 (zI s1) (zL s1) (zA s1 5) o2 a2 (zI s2) (zL s2) (zA s2 1) (zA s2 2) (zA s2 3) (zA s2 6) (zA s2 7)) sz)) 0 0 (va_A (wd_Creeps_gather cy o0 a0 (zI s0) (zL s0) (zA s0 1) (zA s0 3) (zA s0 4) (zA s0 5) (zA s0 7) o1 a1 (zI s1) (zL s1) (zA s1 5) o2 a2 (zI s2) (zL s2) (zA s2 1) (zA s2 2) (zA s2 3) (zA s2 6) (zA s2 7)) sz) :=
  zentW (Qw := fun A => (zQv (dC, dI) cy (wd_Creeps_gather cy o0 a0 (zI y) (zL y) (zA y 1) (zA y 3) (zA y 4) (zA y 5) (zA y 7) o1 a1 (zI s1) (zL s1) (zA s1 5) o2 a2 (zI s2) (zL s2) (zA s2 1) (zA s2 2) (zA s2 3) (zA s2 6) (zA s2 7)) A)) (by decide +kernel) (Nat.le_of_ble_eq_true rfl) (fun p e s m below meth c A C0 hA hP hD hS ls hl => k_Creeps_gather_b0 C0 s0 s1 s2 v3 hA hP hD hS hf ls hl)
def wd_Integer_bitCount (cy : Nat → ClassId) : va_W := []
def rm_Integer_bitCount : Room := { frames := 1, cells := 0, slots := 0, locals := 40 }
set_option maxHeartbeats 4000000 in
set_option maxRecDepth 100000 in
theorem k_Integer_bitCount_b48 {p : Program} {l : Launch} {e : Env} {s : State} {m : MethodId} {args : Array Value} {below : List Frame} {meth : Method} {c : Code} {dC : Nat → ClassId} {dI : Nat → Nat → Nat} {cy : Nat → ClassId} {N : Nat} {y : Int32} (C0 : zCx p s m args meth c cJ6_bitCount_0f7a4 1 (some .int) RJ6 (dC, dI) cy) (v0 : Int32) (hP : va_P (dC, dI) vwCl (wd_Integer_bitCount cy) s.heap) (hf : Integer_bitCount_b48 N v0 = some y) (ls : Array Slot) (hl : lv_has ls 1 [(0, .int v0)]) : W p l e rm_Integer_bitCount s m args below meth c s.heap [] 0 0 (MQ below (zSi y) args s 0 0 (fun _ => False)) (F0 m 48 ls []) := by
  obtain ⟨hx, hb, hr, hml, hown, hT, hk, hK⟩ := id C0
  refine lv_iload_n hx hb dJ6_bitCount_0f7a4_48 rfl (lv_at hl 0 rfl) ?_
  refine lv_bipush (v := 63) hx hb dJ6_bitCount_0f7a4_49 (by decide) ?_
  refine lv_iand hx hb dJ6_bitCount_0f7a4_51 ?_
  cases hf
  exact zeri hx hb hr hk dJ6_bitCount_0f7a4_52
set_option maxHeartbeats 4000000 in
set_option maxRecDepth 100000 in
theorem k_Integer_bitCount_b41 {p : Program} {l : Launch} {e : Env} {s : State} {m : MethodId} {args : Array Value} {below : List Frame} {meth : Method} {c : Code} {dC : Nat → ClassId} {dI : Nat → Nat → Nat} {cy : Nat → ClassId} {N : Nat} {y : Int32} (C0 : zCx p s m args meth c cJ6_bitCount_0f7a4 1 (some .int) RJ6 (dC, dI) cy) (v0 : Int32) (hP : va_P (dC, dI) vwCl (wd_Integer_bitCount cy) s.heap) (hf : Integer_bitCount_b41 N v0 = some y) (ls : Array Slot) (hl : lv_has ls 1 [(0, .int v0)]) : W p l e rm_Integer_bitCount s m args below meth c s.heap [] 0 0 (MQ below (zSi y) args s 0 0 (fun _ => False)) (F0 m 41 ls []) := by
  obtain ⟨hx, hb, hr, hml, hown, hT, hk, hK⟩ := id C0
  refine lv_iload_n hx hb dJ6_bitCount_0f7a4_41 rfl (lv_at hl 0 rfl) ?_
  refine lv_iload_n hx hb dJ6_bitCount_0f7a4_42 rfl (lv_at hl 0 rfl) ?_
  refine lv_bipush (v := 16) hx hb dJ6_bitCount_0f7a4_43 (by decide) ?_
  refine lv_iushr (v := (Int32.toUInt32 v0 >>> (Int32.toUInt32 16 &&& Int32.toUInt32 31)).toInt32) hx hb dJ6_bitCount_0f7a4_45 rfl ?_
  refine lv_iadd hx hb dJ6_bitCount_0f7a4_46 ?_
  refine lv_istore_n (lv' := [(0, .int (v0 + ((Int32.toUInt32 v0 >>> (Int32.toUInt32 16 &&& Int32.toUInt32 31)).toInt32)))]) hx hb dJ6_bitCount_0f7a4_47 rfl hl (by decide) rfl (fun ls hl => ?_)
  exact k_Integer_bitCount_b48 C0 (v0 + ((Int32.toUInt32 v0 >>> (Int32.toUInt32 16 &&& Int32.toUInt32 31)).toInt32))  hP hf _ (lv_sub hl [0] rfl)
set_option maxHeartbeats 4000000 in
set_option maxRecDepth 100000 in
theorem k_Integer_bitCount_b34 {p : Program} {l : Launch} {e : Env} {s : State} {m : MethodId} {args : Array Value} {below : List Frame} {meth : Method} {c : Code} {dC : Nat → ClassId} {dI : Nat → Nat → Nat} {cy : Nat → ClassId} {N : Nat} {y : Int32} (C0 : zCx p s m args meth c cJ6_bitCount_0f7a4 1 (some .int) RJ6 (dC, dI) cy) (v0 : Int32) (hP : va_P (dC, dI) vwCl (wd_Integer_bitCount cy) s.heap) (hf : Integer_bitCount_b34 N v0 = some y) (ls : Array Slot) (hl : lv_has ls 1 [(0, .int v0)]) : W p l e rm_Integer_bitCount s m args below meth c s.heap [] 0 0 (MQ below (zSi y) args s 0 0 (fun _ => False)) (F0 m 34 ls []) := by
  obtain ⟨hx, hb, hr, hml, hown, hT, hk, hK⟩ := id C0
  refine lv_iload_n hx hb dJ6_bitCount_0f7a4_34 rfl (lv_at hl 0 rfl) ?_
  refine lv_iload_n hx hb dJ6_bitCount_0f7a4_35 rfl (lv_at hl 0 rfl) ?_
  refine lv_bipush (v := 8) hx hb dJ6_bitCount_0f7a4_36 (by decide) ?_
  refine lv_iushr (v := (Int32.toUInt32 v0 >>> (Int32.toUInt32 8 &&& Int32.toUInt32 31)).toInt32) hx hb dJ6_bitCount_0f7a4_38 rfl ?_
  refine lv_iadd hx hb dJ6_bitCount_0f7a4_39 ?_
  refine lv_istore_n (lv' := [(0, .int (v0 + ((Int32.toUInt32 v0 >>> (Int32.toUInt32 8 &&& Int32.toUInt32 31)).toInt32)))]) hx hb dJ6_bitCount_0f7a4_40 rfl hl (by decide) rfl (fun ls hl => ?_)
  exact k_Integer_bitCount_b41 C0 (v0 + ((Int32.toUInt32 v0 >>> (Int32.toUInt32 8 &&& Int32.toUInt32 31)).toInt32))  hP hf _ (lv_sub hl [0] rfl)
set_option maxHeartbeats 4000000 in
set_option maxRecDepth 100000 in
theorem k_Integer_bitCount_b24 {p : Program} {l : Launch} {e : Env} {s : State} {m : MethodId} {args : Array Value} {below : List Frame} {meth : Method} {c : Code} {dC : Nat → ClassId} {dI : Nat → Nat → Nat} {cy : Nat → ClassId} {N : Nat} {y : Int32} (C0 : zCx p s m args meth c cJ6_bitCount_0f7a4 1 (some .int) RJ6 (dC, dI) cy) (v0 : Int32) (hP : va_P (dC, dI) vwCl (wd_Integer_bitCount cy) s.heap) (hf : Integer_bitCount_b24 N v0 = some y) (ls : Array Slot) (hl : lv_has ls 1 [(0, .int v0)]) : W p l e rm_Integer_bitCount s m args below meth c s.heap [] 0 0 (MQ below (zSi y) args s 0 0 (fun _ => False)) (F0 m 24 ls []) := by
  obtain ⟨hx, hb, hr, hml, hown, hT, hk, hK⟩ := id C0
  refine lv_iload_n hx hb dJ6_bitCount_0f7a4_24 rfl (lv_at hl 0 rfl) ?_
  refine lv_iload_n hx hb dJ6_bitCount_0f7a4_25 rfl (lv_at hl 0 rfl) ?_
  refine lv_iconst (v := 4) hx hb dJ6_bitCount_0f7a4_26 (by decide) ?_
  refine lv_iushr (v := (Int32.toUInt32 v0 >>> (Int32.toUInt32 4 &&& Int32.toUInt32 31)).toInt32) hx hb dJ6_bitCount_0f7a4_27 rfl ?_
  refine lv_iadd hx hb dJ6_bitCount_0f7a4_28 ?_
  refine lv_ldcw (v := 252645135) hx hb hown (hT _ tb_867) dJ6_bitCount_0f7a4_29 ?_
  refine lv_iand hx hb dJ6_bitCount_0f7a4_32 ?_
  refine lv_istore_n (lv' := [(0, .int ((v0 + ((Int32.toUInt32 v0 >>> (Int32.toUInt32 4 &&& Int32.toUInt32 31)).toInt32)) &&& 252645135))]) hx hb dJ6_bitCount_0f7a4_33 rfl hl (by decide) rfl (fun ls hl => ?_)
  exact k_Integer_bitCount_b34 C0 ((v0 + ((Int32.toUInt32 v0 >>> (Int32.toUInt32 4 &&& Int32.toUInt32 31)).toInt32)) &&& 252645135)  hP hf _ (lv_sub hl [0] rfl)
set_option maxHeartbeats 4000000 in
set_option maxRecDepth 100000 in
theorem k_Integer_bitCount_b0 {p : Program} {l : Launch} {e : Env} {s : State} {m : MethodId} {args : Array Value} {below : List Frame} {meth : Method} {c : Code} {dC : Nat → ClassId} {dI : Nat → Nat → Nat} {cy : Nat → ClassId} {N : Nat} {y : Int32} (C0 : zCx p s m args meth c cJ6_bitCount_0f7a4 1 (some .int) RJ6 (dC, dI) cy) (v0 : Int32) (hP : va_P (dC, dI) vwCl (wd_Integer_bitCount cy) s.heap) (hf : Integer_bitCount_b0 N v0 = some y) (ls : Array Slot) (hl : lv_has ls 1 [(0, .int v0)]) : W p l e rm_Integer_bitCount s m args below meth c s.heap [] 0 0 (MQ below (zSi y) args s 0 0 (fun _ => False)) (F0 m 0 ls []) := by
  obtain ⟨hx, hb, hr, hml, hown, hT, hk, hK⟩ := id C0
  refine lv_iload_n hx hb dJ6_bitCount_0f7a4_0 rfl (lv_at hl 0 rfl) ?_
  refine lv_iload_n hx hb dJ6_bitCount_0f7a4_1 rfl (lv_at hl 0 rfl) ?_
  refine lv_iconst (v := 1) hx hb dJ6_bitCount_0f7a4_2 (by decide) ?_
  refine lv_iushr (v := (Int32.toUInt32 v0 >>> (Int32.toUInt32 1 &&& Int32.toUInt32 31)).toInt32) hx hb dJ6_bitCount_0f7a4_3 rfl ?_
  refine lv_ldcw (v := 1431655765) hx hb hown (hT _ tb_865) dJ6_bitCount_0f7a4_4 ?_
  refine lv_iand hx hb dJ6_bitCount_0f7a4_7 ?_
  refine lv_isub hx hb dJ6_bitCount_0f7a4_8 ?_
  refine lv_istore_n (lv' := [(0, .int (v0 - (((Int32.toUInt32 v0 >>> (Int32.toUInt32 1 &&& Int32.toUInt32 31)).toInt32) &&& 1431655765)))]) hx hb dJ6_bitCount_0f7a4_9 rfl hl (by decide) rfl (fun ls hl => ?_)
  refine lv_iload_n hx hb dJ6_bitCount_0f7a4_10 rfl (lv_at hl 0 rfl) ?_
  refine lv_ldcw (v := 858993459) hx hb hown (hT _ tb_866) dJ6_bitCount_0f7a4_11 ?_
  refine lv_iand hx hb dJ6_bitCount_0f7a4_14 ?_
  refine lv_iload_n hx hb dJ6_bitCount_0f7a4_15 rfl (lv_at hl 0 rfl) ?_
  refine lv_iconst (v := 2) hx hb dJ6_bitCount_0f7a4_16 (by decide) ?_
  refine lv_iushr (v := (Int32.toUInt32 (v0 - (((Int32.toUInt32 v0 >>> (Int32.toUInt32 1 &&& Int32.toUInt32 31)).toInt32) &&& 1431655765)) >>> (Int32.toUInt32 2 &&& Int32.toUInt32 31)).toInt32) hx hb dJ6_bitCount_0f7a4_17 rfl ?_
  refine lv_ldcw (v := 858993459) hx hb hown (hT _ tb_866) dJ6_bitCount_0f7a4_18 ?_
  refine lv_iand hx hb dJ6_bitCount_0f7a4_21 ?_
  refine lv_iadd hx hb dJ6_bitCount_0f7a4_22 ?_
  refine lv_istore_n (lv' := [(0, .int (((v0 - (((Int32.toUInt32 v0 >>> (Int32.toUInt32 1 &&& Int32.toUInt32 31)).toInt32) &&& 1431655765)) &&& 858993459) + (((Int32.toUInt32 (v0 - (((Int32.toUInt32 v0 >>> (Int32.toUInt32 1 &&& Int32.toUInt32 31)).toInt32) &&& 1431655765)) >>> (Int32.toUInt32 2 &&& Int32.toUInt32 31)).toInt32) &&& 858993459)))]) hx hb dJ6_bitCount_0f7a4_23 rfl hl (by decide) rfl (fun ls hl => ?_)
  exact k_Integer_bitCount_b24 C0 (((v0 - (((Int32.toUInt32 v0 >>> (Int32.toUInt32 1 &&& Int32.toUInt32 31)).toInt32) &&& 1431655765)) &&& 858993459) + (((Int32.toUInt32 (v0 - (((Int32.toUInt32 v0 >>> (Int32.toUInt32 1 &&& Int32.toUInt32 31)).toInt32) &&& 1431655765)) >>> (Int32.toUInt32 2 &&& Int32.toUInt32 31)).toInt32) &&& 858993459))  hP hf _ (lv_sub hl [0] rfl)
set_option maxHeartbeats 4000000 in
set_option maxRecDepth 100000 in
theorem c_Integer_bitCount {l : Launch} {dC : Nat → ClassId} {dI : Nat → Nat → Nat} {cy : Nat → ClassId} {N : Nat} (v0 : Int32) {y : Int32} (hf : Integer_bitCount N v0 = some y) : Met l yJ6_bitCount_0f7a4 (.code yJ6_bitCount_0f7a4 cJ6_bitCount_0f7a4 1 (some .int) :: zt) rm_Integer_bitCount (va_Pc [.int v0] (zRd (dC, dI) cy (wd_Integer_bitCount cy))) (zSi y) 0 0 (fun _ => False) :=
  zentR (by decide +kernel) (Nat.le_of_ble_eq_true rfl) (fun p e s m below meth c C0 hP ls hl => k_Integer_bitCount_b0 C0 v0 hP hf ls hl)
def wd_Creeps_countNotTooMany (cy : Nat → ClassId) (o0 : Nat) (a0 : Nat → Nat) (g0 : Nat → Int32) (h0 : Nat → Int64) (x0_5 : Nat → Int32) : va_W := [(o0, .inr (1, fs_Creeps a0 g0 h0)), (a0 5, .inl (cy 0, 40, .inl x0_5))]
def rm_Creeps_countNotTooMany : Room := { frames := 2, cells := 0, slots := 0, locals := 60 }
theorem rm_ok_Creeps_countNotTooMany_Integer_bitCount : rm_Integer_bitCount.cells = 0 ∧ rm_Integer_bitCount.slots = 0 ∧ rm_Integer_bitCount.frames + 1 ≤ rm_Creeps_countNotTooMany.frames ∧ 8 + (1 + 11) + rm_Integer_bitCount.locals ≤ rm_Creeps_countNotTooMany.locals := by decide
set_option maxHeartbeats 4000000 in
set_option maxRecDepth 100000 in
theorem k_Creeps_countNotTooMany_b2 {p : Program} {l : Launch} {e : Env} {s : State} {m : MethodId} {args : Array Value} {below : List Frame} {meth : Method} {c : Code} {dC : Nat → ClassId} {dI : Nat → Nat → Nat} {cy : Nat → ClassId} {o0 : Nat} {a0 : Nat → Nat} {N : Nat} {kh2 : Int32 → Option (Int32)} {y : Int32} (C0 : zCx p s m args meth c cX1_countNotTooMany 2 (some .int) RX1 (dC, dI) cy) (s0 : zSt) (v1 : Int32) (hk2 : ∀ (v1 : Int32) (_ : kh2 v1 = some y) (ls : Array Slot) (_ : lv_has ls 2 [(0, .ref o0), (1, .int v1)]), W p l e rm_Creeps_countNotTooMany s m args below meth c s.heap [] 0 0 (MQ below (zSi y) args s 0 0 (fun _ => False)) (F0 m 2 ls [])) (hP : va_P (dC, dI) vwCl (wd_Creeps_countNotTooMany cy o0 a0 (zI s0) (zL s0) (zA s0 5)) s.heap) (hf : Creeps_countNotTooMany_b2 N kh2 s0 v1 = some y) (ls : Array Slot) (hl : lv_has ls 2 [(0, .ref o0), (1, .int v1)]) : W p l e rm_Creeps_countNotTooMany s m args below meth c s.heap [] 0 0 (MQ below (zSi y) args s 0 0 (fun _ => False)) (F0 m 2 ls []) := by
  obtain ⟨hx, hb, hr, hml, hown, hT, hk, hK⟩ := id C0
  refine lv_iload_n hx hb dX1_countNotTooMany_2 rfl (lv_at hl 1 rfl) ?_
  refine lv_aload_n hx hb dX1_countNotTooMany_3 rfl (lv_at hl 0 rfl) ?_
  refine zget (v := .int (zI s0 2)) hx hb hown hT hK hP inX1 rfl smX1 0 rfl 2 (by decide) tb_386 rfl dX1_countNotTooMany_4 ?_
  refine lv_icmp_ge (tgt := 32) hx hb dX1_countNotTooMany_7 (by decide) (fun hb_1 => ?_) (fun hb_1 => ?_)
  · have hf := zif_t hb_1 hf
    refine lv_iload_n hx hb dX1_countNotTooMany_32 rfl (lv_at hl 1 rfl) ?_
    cases hf
    exact zeri hx hb hr hk dX1_countNotTooMany_33
  · have hf := zif_f hb_1 hf
    refine lv_aload_n hx hb dX1_countNotTooMany_10 rfl (lv_at hl 0 rfl) ?_
    refine zget (v := .ref (a0 5)) hx hb hown hT hK hP inX1 rfl smX1 0 rfl 5 (by decide) tb_389 rfl dX1_countNotTooMany_11 ?_
    refine lv_iload_n hx hb dX1_countNotTooMany_14 rfl (lv_at hl 1 rfl) ?_
    obtain ⟨hi2, hf⟩ := zck_some hf
    refine va_iald hx hb hK.1 hP 1 0 rfl rfl hi2 dX1_countNotTooMany_15 ?_
    obtain ⟨z3, hc4, hf⟩ := zbd_some hf
    refine zri (zS (As := [.int ((zA s0 5) (Int32.toNatClampNeg v1))]) hx hb hml hown hT hl.1 (c_Integer_bitCount ((zA s0 5) (Int32.toNatClampNeg v1)) hc4) zY_Integer_bitCount tb_900 (zpS hK hP [] rfl) rm_ok_Creeps_countNotTooMany_Integer_bitCount rfl rfl (Nat.le_of_ble_eq_true rfl) dX1_countNotTooMany_16 ⟨Nat.zero_le _, Nat.zero_le _⟩) ?_
    refine lv_aload_n hx hb dX1_countNotTooMany_19 rfl (lv_at hl 0 rfl) ?_
    refine zget (v := .int (zI s0 0)) hx hb hown hT hK hP inX1 rfl smX1 0 rfl 0 (by decide) tb_384 rfl dX1_countNotTooMany_20 ?_
    refine lv_icmp_gt (tgt := 32) hx hb dX1_countNotTooMany_23 (by decide) (fun hb_5 => ?_) (fun hb_5 => ?_)
    · have hf := zif_t hb_5 hf
      refine lv_iload_n hx hb dX1_countNotTooMany_32 rfl (lv_at hl 1 rfl) ?_
      cases hf
      exact zeri hx hb hr hk dX1_countNotTooMany_33
    · have hf := zif_f hb_5 hf
      refine lv_iinc (v := v1 + 1) (lv' := [(1, .int (v1 + 1)), (0, .ref o0)]) hx hb dX1_countNotTooMany_26 hl (k := 1) rfl rfl (by decide) rfl (fun ls hl => ?_)
      refine lv_goto (tgt := 2) hx hb dX1_countNotTooMany_29 (by decide) ?_
      exact hk2 (v1 + 1) hf _ (lv_sub hl [1, 0] rfl)
set_option maxHeartbeats 4000000 in
set_option maxRecDepth 100000 in
theorem k_Creeps_countNotTooMany_h2 {p : Program} {l : Launch} {e : Env} {s : State} {m : MethodId} {args : Array Value} {below : List Frame} {meth : Method} {c : Code} {dC : Nat → ClassId} {dI : Nat → Nat → Nat} {cy : Nat → ClassId} {o0 : Nat} {a0 : Nat → Nat} {N : Nat} {y : Int32} (C0 : zCx p s m args meth c cX1_countNotTooMany 2 (some .int) RX1 (dC, dI) cy) (s0 : zSt) (hP : va_P (dC, dI) vwCl (wd_Creeps_countNotTooMany cy o0 a0 (zI s0) (zL s0) (zA s0 5)) s.heap) : ∀ (n : Nat) (v1 : Int32) (hf : Creeps_countNotTooMany_h2 N s0 n v1 = some y) (ls : Array Slot) (hl : lv_has ls 2 [(0, .ref o0), (1, .int v1)]), W p l e rm_Creeps_countNotTooMany s m args below meth c s.heap [] 0 0 (MQ below (zSi y) args s 0 0 (fun _ => False)) (F0 m 2 ls []) := by
  intro n
  induction n with
  | zero => intro v1 hf; cases hf
  | succ n ih =>
    intro v1 hf ls hl
    have hf : Creeps_countNotTooMany_b2 N (Creeps_countNotTooMany_h2 N s0 n) s0 v1 = some y := hf
    exact k_Creeps_countNotTooMany_b2 C0 s0 v1 (fun v1 hf ls hl => ih v1 hf ls hl) hP hf ls hl
set_option maxHeartbeats 4000000 in
set_option maxRecDepth 100000 in
theorem k_Creeps_countNotTooMany_b0 {p : Program} {l : Launch} {e : Env} {s : State} {m : MethodId} {args : Array Value} {below : List Frame} {meth : Method} {c : Code} {dC : Nat → ClassId} {dI : Nat → Nat → Nat} {cy : Nat → ClassId} {o0 : Nat} {a0 : Nat → Nat} {N : Nat} {y : Int32} (C0 : zCx p s m args meth c cX1_countNotTooMany 2 (some .int) RX1 (dC, dI) cy) (s0 : zSt) (hP : va_P (dC, dI) vwCl (wd_Creeps_countNotTooMany cy o0 a0 (zI s0) (zL s0) (zA s0 5)) s.heap) (hf : Creeps_countNotTooMany_b0 N s0 = some y) (ls : Array Slot) (hl : lv_has ls 2 [(0, .ref o0)]) : W p l e rm_Creeps_countNotTooMany s m args below meth c s.heap [] 0 0 (MQ below (zSi y) args s 0 0 (fun _ => False)) (F0 m 0 ls []) := by
  obtain ⟨hx, hb, hr, hml, hown, hT, hk, hK⟩ := id C0
  refine lv_iconst (v := 0) hx hb dX1_countNotTooMany_0 (by decide) ?_
  refine lv_istore_n (lv' := [(1, .int 0), (0, .ref o0)]) hx hb dX1_countNotTooMany_1 rfl hl (by decide) rfl (fun ls hl => ?_)
  exact k_Creeps_countNotTooMany_h2 C0 s0  hP N 0 hf _ (lv_sub hl [1, 0] rfl)
set_option maxHeartbeats 4000000 in
set_option maxRecDepth 100000 in
theorem c_Creeps_countNotTooMany {l : Launch} {dC : Nat → ClassId} {dI : Nat → Nat → Nat} {cy : Nat → ClassId} {N : Nat} (o0 : Nat) (a0 : Nat → Nat) (s0 : zSt) {y : Int32} (hf : Creeps_countNotTooMany N s0 = some y) : Met l yX1_countNotTooMany (.code yX1_countNotTooMany cX1_countNotTooMany 2 (some .int) :: zt) rm_Creeps_countNotTooMany (va_Pc [.ref o0] (zRd (dC, dI) cy (wd_Creeps_countNotTooMany cy o0 a0 (zI s0) (zL s0) (zA s0 5)))) (zSi y) 0 0 (fun _ => False) :=
  zentR (by decide +kernel) (Nat.le_of_ble_eq_true rfl) (fun p e s m below meth c C0 hP ls hl => k_Creeps_countNotTooMany_b0 C0 s0 hP hf ls hl)
def wd_Math_floorMod (cy : Nat → ClassId) : va_W := []
def rm_Math_floorMod : Room := { frames := 1, cells := 0, slots := 0, locals := 40 }
set_option maxHeartbeats 4000000 in
set_option maxRecDepth 100000 in
theorem k_Math_floorMod_b0 {p : Program} {l : Launch} {e : Env} {s : State} {m : MethodId} {args : Array Value} {below : List Frame} {meth : Method} {c : Code} {dC : Nat → ClassId} {dI : Nat → Nat → Nat} {cy : Nat → ClassId} {N : Nat} {y : Int32} (C0 : zCx p s m args meth c cJ9_floorMod_7cf53 3 (some .int) RJ9 (dC, dI) cy) (v0 : Int32) (v1 : Int32) (hP : va_P (dC, dI) vwCl (wd_Math_floorMod cy) s.heap) (hf : Math_floorMod_b0 N v0 v1 = some y) (ls : Array Slot) (hl : lv_has ls 3 [(0, .int v0), (1, .int v1)]) : W p l e rm_Math_floorMod s m args below meth c s.heap [] 0 0 (MQ below (zSi y) args s 0 0 (fun _ => False)) (F0 m 0 ls []) := by
  obtain ⟨hx, hb, hr, hml, hown, hT, hk, hK⟩ := id C0
  refine lv_iload_n hx hb dJ9_floorMod_7cf53_0 rfl (lv_at hl 0 rfl) ?_
  refine lv_iload_n hx hb dJ9_floorMod_7cf53_1 rfl (lv_at hl 1 rfl) ?_
  obtain ⟨hz1, hf⟩ := zcz_some hf
  refine lv_irem hx hb dJ9_floorMod_7cf53_2 hz1 ?_
  refine lv_istore_n (lv' := [(2, .int (v0 - v0 / v1 * v1)), (0, .int v0), (1, .int v1)]) hx hb dJ9_floorMod_7cf53_3 rfl hl (by decide) rfl (fun ls hl => ?_)
  refine lv_iload_n hx hb dJ9_floorMod_7cf53_4 rfl (lv_at hl 1 rfl) ?_
  refine lv_iload_n hx hb dJ9_floorMod_7cf53_5 rfl (lv_at hl 2 rfl) ?_
  refine lv_ixor hx hb dJ9_floorMod_7cf53_6 ?_
  refine lv_if_ge (tgt := 18) hx hb dJ9_floorMod_7cf53_7 (by decide) (fun hb_2 => ?_) (fun hb_2 => ?_)
  · have hf := zif_t hb_2 hf
    refine lv_iload_n hx hb dJ9_floorMod_7cf53_18 rfl (lv_at hl 0 rfl) ?_
    cases hf
    exact zeri hx hb hr hk dJ9_floorMod_7cf53_19
  · have hf := zif_f hb_2 hf
    refine lv_iload_n hx hb dJ9_floorMod_7cf53_10 rfl (lv_at hl 0 rfl) ?_
    refine lv_if_eq (tgt := 18) hx hb dJ9_floorMod_7cf53_11 (by decide) (fun hb_3 => ?_) (fun hb_3 => ?_)
    · have hf := zif_t hb_3 hf
      refine lv_iload_n hx hb dJ9_floorMod_7cf53_18 rfl (lv_at hl 0 rfl) ?_
      cases hf
      exact zeri hx hb hr hk dJ9_floorMod_7cf53_19
    · have hf := zif_f hb_3 hf
      refine lv_iload_n hx hb dJ9_floorMod_7cf53_14 rfl (lv_at hl 0 rfl) ?_
      refine lv_iload_n hx hb dJ9_floorMod_7cf53_15 rfl (lv_at hl 2 rfl) ?_
      refine lv_iadd hx hb dJ9_floorMod_7cf53_16 ?_
      cases hf
      exact zeri hx hb hr hk dJ9_floorMod_7cf53_17
set_option maxHeartbeats 4000000 in
set_option maxRecDepth 100000 in
theorem c_Math_floorMod {l : Launch} {dC : Nat → ClassId} {dI : Nat → Nat → Nat} {cy : Nat → ClassId} {N : Nat} (v0 : Int32) (v1 : Int32) {y : Int32} (hf : Math_floorMod N v0 v1 = some y) : Met l yJ9_floorMod_7cf53 (.code yJ9_floorMod_7cf53 cJ9_floorMod_7cf53 3 (some .int) :: zt) rm_Math_floorMod (va_Pc [.int v0, .int v1] (zRd (dC, dI) cy (wd_Math_floorMod cy))) (zSi y) 0 0 (fun _ => False) :=
  zentR (by decide +kernel) (Nat.le_of_ble_eq_true rfl) (fun p e s m below meth c C0 hP ls hl => k_Math_floorMod_b0 C0 v0 v1 hP hf ls hl)
def wd_Creeps_ring (cy : Nat → ClassId) (o0 : Nat) (a0 : Nat → Nat) (g0 : Nat → Int32) (h0 : Nat → Int64) (x0_1 : Nat → Int32) (x0_4 : Nat → Int32) (x0_5 : Nat → Int32) (x0_7 : Nat → Int32) : va_W := [(o0, .inr (1, fs_Creeps a0 g0 h0)), (a0 1, .inl (cy 0, 8, .inl x0_1)), (a0 4, .inl (cy 0, 40, .inl x0_4)), (a0 5, .inl (cy 0, 40, .inl x0_5)), (a0 7, .inl (cy 0, 360, .inl x0_7))]
def rm_Creeps_ring : Room := { frames := 2, cells := 0, slots := 0, locals := 62 }
theorem rm_ok_Creeps_ring_Integer_bitCount : rm_Integer_bitCount.cells = 0 ∧ rm_Integer_bitCount.slots = 0 ∧ rm_Integer_bitCount.frames + 1 ≤ rm_Creeps_ring.frames ∧ 8 + (1 + 11) + rm_Integer_bitCount.locals ≤ rm_Creeps_ring.locals := by decide
theorem rm_ok_Creeps_ring_Math_floorMod : rm_Math_floorMod.cells = 0 ∧ rm_Math_floorMod.slots = 0 ∧ rm_Math_floorMod.frames + 1 ≤ rm_Creeps_ring.frames ∧ 8 + (3 + 11) + rm_Math_floorMod.locals ≤ rm_Creeps_ring.locals := by decide
set_option maxHeartbeats 4000000 in
set_option maxRecDepth 100000 in
theorem k_Creeps_ring_b26 {p : Program} {l : Launch} {e : Env} {s : State} {m : MethodId} {args : Array Value} {below : List Frame} {meth : Method} {c : Code} {dC : Nat → ClassId} {dI : Nat → Nat → Nat} {cy : Nat → ClassId} {A : Nat → Prop} {o0 : Nat} {a0 : Nat → Nat} {N : Nat} {kh26 : zSt → Int32 → Option (Int32 × zSt)} {y : Int32 × zSt} (C0 : zCx p s m args meth c cX1_ring 10 (some .int) RX1 (dC, dI) cy) (s0 : zSt) (v1 : Int32) (v2 : Int32) (v3 : Int32) (v4 : Int32) (v5 : Int32) (v6 : Int32) (v7 : Int32) (hk26 : ∀ (s0 : zSt) (v7 : Int32) {H : Heap} {locs : List Loc} (_ : va_P (dC, dI) vwCl (wd_Creeps_ring cy o0 a0 (zI s0) (zL s0) (zA s0 1) (zA s0 4) (zA s0 5) (zA s0 7)) H) (_ : va_D A (wd_Creeps_ring cy o0 a0 (zI s0) (zL s0) (zA s0 1) (zA s0 4) (zA s0 5) (zA s0 7))) (_ : va_S A s.heap H locs) (_ : kh26 s0 v7 = some y) (ls : Array Slot) (_ : lv_has ls 10 [(0, .ref o0), (1, .int v1), (2, .int v2), (3, .int v3), (4, .int v4), (5, .int v5), (6, .int v6), (7, .int v7)]), W p l e rm_Creeps_ring s m args below meth c H locs 0 0 (MQ below (zQi y.1 (dC, dI) cy (wd_Creeps_ring cy o0 a0 (zI y.2) (zL y.2) (zA y.2 1) (zA y.2 4) (zA y.2 5) (zA y.2 7)) A) args s 0 0 A) (F0 m 26 ls [])) (hA : ∀ q, s.heap.size ≤ q → A q) {H : Heap} {locs : List Loc} (hP : va_P (dC, dI) vwCl (wd_Creeps_ring cy o0 a0 (zI s0) (zL s0) (zA s0 1) (zA s0 4) (zA s0 5) (zA s0 7)) H) (hD : va_D A (wd_Creeps_ring cy o0 a0 (zI s0) (zL s0) (zA s0 1) (zA s0 4) (zA s0 5) (zA s0 7))) (hS : va_S A s.heap H locs) (hf : Creeps_ring_b26 N kh26 s0 v1 v2 v3 v4 v5 v6 v7 = some y) (ls : Array Slot) (hl : lv_has ls 10 [(0, .ref o0), (1, .int v1), (2, .int v2), (3, .int v3), (4, .int v4), (5, .int v5), (6, .int v6), (7, .int v7)]) : W p l e rm_Creeps_ring s m args below meth c H locs 0 0 (MQ below (zQi y.1 (dC, dI) cy (wd_Creeps_ring cy o0 a0 (zI y.2) (zL y.2) (zA y.2 1) (zA y.2 4) (zA y.2 5) (zA y.2 7)) A) args s 0 0 A) (F0 m 26 ls []) := by
  obtain ⟨hx, hb, hr, hml, hown, hT, hk, hK⟩ := id C0
  refine lv_iload hx hb dX1_ring_26 (lv_at hl 7 rfl) ?_
  refine lv_iload_n hx hb dX1_ring_28 rfl (lv_at hl 3 rfl) ?_
  refine lv_icmp_ge (tgt := 126) hx hb dX1_ring_29 (by decide) (fun hb_1 => ?_) (fun hb_1 => ?_)
  · have hf := zif_t hb_1 hf
    refine lv_iload_n hx hb dX1_ring_126 rfl (lv_at hl 3 rfl) ?_
    cases hf
    exact zewi hx hb hr hk hK hP hD hS dX1_ring_127
  · have hf := zif_f hb_1 hf
    refine lv_iconst (v := 1) hx hb dX1_ring_32 (by decide) ?_
    refine lv_aload_n hx hb dX1_ring_33 rfl (lv_at hl 0 rfl) ?_
    refine zget (v := .ref (a0 1)) hx hb hown hT hK hP inX1 rfl smX1 0 rfl 1 (by decide) tb_385 rfl dX1_ring_34 ?_
    refine lv_iload_n hx hb dX1_ring_37 rfl (lv_at hl 1 rfl) ?_
    obtain ⟨hi2, hf⟩ := zck_some hf
    refine va_iald hx hb hK.1 hP 1 0 rfl rfl hi2 dX1_ring_38 ?_
    refine lv_iload_n hx hb dX1_ring_39 rfl (lv_at hl 2 rfl) ?_
    refine lv_aload_n hx hb dX1_ring_40 rfl (lv_at hl 0 rfl) ?_
    refine zget (v := .ref (a0 4)) hx hb hown hT hK hP inX1 rfl smX1 0 rfl 4 (by decide) tb_388 rfl dX1_ring_41 ?_
    refine lv_iload hx hb dX1_ring_44 (lv_at hl 7 rfl) ?_
    obtain ⟨hi3, hf⟩ := zck_some hf
    refine va_iald hx hb hK.1 hP 2 0 rfl rfl hi3 dX1_ring_46 ?_
    refine lv_imul hx hb dX1_ring_47 ?_
    refine lv_isub hx hb dX1_ring_48 ?_
    refine lv_bipush (v := 12) hx hb dX1_ring_49 (by decide) ?_
    obtain ⟨z4, hc5, hf⟩ := zbd_some hf
    refine zri (zS (As := [.int (((zA s0 1) (Int32.toNatClampNeg v1)) - (v2 * ((zA s0 4) (Int32.toNatClampNeg v7)))), .int 12]) hx hb hml hown hT hl.1 (c_Math_floorMod (((zA s0 1) (Int32.toNatClampNeg v1)) - (v2 * ((zA s0 4) (Int32.toNatClampNeg v7)))) 12 hc5) zY_Math_floorMod tb_912 (zpS hK hP [] rfl) rm_ok_Creeps_ring_Math_floorMod rfl rfl (Nat.le_of_ble_eq_true rfl) dX1_ring_51 ⟨Nat.zero_le _, Nat.zero_le _⟩) ?_
    refine lv_ishl hx hb dX1_ring_54 ?_
    refine lv_istore (lv' := [(8, .int ((1 : Int32) <<< (z4 &&& 31))), (0, .ref o0), (1, .int v1), (2, .int v2), (3, .int v3), (4, .int v4), (5, .int v5), (6, .int v6), (7, .int v7)]) hx hb dX1_ring_55 hl (by decide) rfl (fun ls hl => ?_)
    refine lv_aload_n hx hb dX1_ring_57 rfl (lv_at hl 1 rfl) ?_
    refine zget (v := .ref (a0 7)) hx hb hown hT hK hP inX1 rfl smX1 0 rfl 7 (by decide) tb_391 rfl dX1_ring_58 ?_
    refine lv_iload hx hb dX1_ring_61 (lv_at hl 5 rfl) ?_
    refine lv_iload hx hb dX1_ring_63 (lv_at hl 8 rfl) ?_
    refine lv_iadd hx hb dX1_ring_65 ?_
    obtain ⟨hi6, hf⟩ := zck_some hf
    refine va_iald hx hb hK.1 hP 4 0 rfl rfl hi6 dX1_ring_66 ?_
    refine lv_iload hx hb dX1_ring_67 (lv_at hl 0 rfl) ?_
    refine lv_ior hx hb dX1_ring_69 ?_
    refine lv_istore (lv' := [(9, .int (((zA s0 7) (Int32.toNatClampNeg (v4 + v7))) ||| ((1 : Int32) <<< (z4 &&& 31)))), (8, .int ((1 : Int32) <<< (z4 &&& 31))), (0, .ref o0), (1, .int v1), (2, .int v2), (3, .int v3), (4, .int v4), (5, .int v5), (6, .int v6), (7, .int v7)]) hx hb dX1_ring_70 hl (by decide) rfl (fun ls hl => ?_)
    refine lv_aload_n hx hb dX1_ring_72 rfl (lv_at hl 2 rfl) ?_
    refine zget (v := .ref (a0 5)) hx hb hown hT hK hP inX1 rfl smX1 0 rfl 5 (by decide) tb_389 rfl dX1_ring_73 ?_
    refine lv_iload hx hb dX1_ring_76 (lv_at hl 9 rfl) ?_
    obtain ⟨hi7, hf⟩ := zck_some hf
    refine va_iald hx hb hK.1 hP 3 0 rfl rfl hi7 dX1_ring_78 ?_
    refine lv_iload hx hb dX1_ring_79 (lv_at hl 1 rfl) ?_
    refine lv_iand hx hb dX1_ring_81 ?_
    refine lv_if_eq (tgt := 105) hx hb dX1_ring_82 (by decide) (fun hb_8 => ?_) (fun hb_8 => ?_)
    · have hf := zif_t hb_8 hf
      refine lv_iload hx hb dX1_ring_105 (lv_at hl 9 rfl) ?_
      cases hf
      exact zewi hx hb hr hk hK hP hD hS dX1_ring_107
    · have hf := zif_f hb_8 hf
      refine lv_aload_n hx hb dX1_ring_85 rfl (lv_at hl 2 rfl) ?_
      refine zget (v := .ref (a0 5)) hx hb hown hT hK hP inX1 rfl smX1 0 rfl 5 (by decide) tb_389 rfl dX1_ring_86 ?_
      refine lv_iload hx hb dX1_ring_89 (lv_at hl 9 rfl) ?_
      obtain ⟨hi9, hf⟩ := zck_some hf
      refine va_iald hx hb hK.1 hP 3 0 rfl rfl hi9 dX1_ring_91 ?_
      refine lv_iload hx hb dX1_ring_92 (lv_at hl 0 rfl) ?_
      refine lv_iconst (v := (-1)) hx hb dX1_ring_94 (by decide) ?_
      refine lv_ixor hx hb dX1_ring_95 ?_
      refine lv_iand hx hb dX1_ring_96 ?_
      obtain ⟨z10, hc11, hf⟩ := zbd_some hf
      refine zri (zS (As := [.int (((zA s0 5) (Int32.toNatClampNeg v7)) &&& ((((zA s0 7) (Int32.toNatClampNeg (v4 + v7))) ||| ((1 : Int32) <<< (z4 &&& 31))) ^^^ (-1)))]) hx hb hml hown hT hl.1 (c_Integer_bitCount (((zA s0 5) (Int32.toNatClampNeg v7)) &&& ((((zA s0 7) (Int32.toNatClampNeg (v4 + v7))) ||| ((1 : Int32) <<< (z4 &&& 31))) ^^^ (-1))) hc11) zY_Integer_bitCount tb_900 (zpS hK hP [] rfl) rm_ok_Creeps_ring_Integer_bitCount rfl rfl (Nat.le_of_ble_eq_true rfl) dX1_ring_97 ⟨Nat.zero_le _, Nat.zero_le _⟩) ?_
      refine lv_iload hx hb dX1_ring_100 (lv_at hl 8 rfl) ?_
      refine lv_icmp_le (tgt := 108) hx hb dX1_ring_102 (by decide) (fun hb_12 => ?_) (fun hb_12 => ?_)
      · have hf := zif_t hb_12 hf
        refine lv_aload_n hx hb dX1_ring_108 rfl (lv_at hl 2 rfl) ?_
        refine zget (v := .ref (a0 7)) hx hb hown hT hK hP inX1 rfl smX1 0 rfl 7 (by decide) tb_391 rfl dX1_ring_109 ?_
        refine lv_iload hx hb dX1_ring_112 (lv_at hl 7 rfl) ?_
        refine lv_iload hx hb dX1_ring_114 (lv_at hl 9 rfl) ?_
        refine lv_iadd hx hb dX1_ring_116 ?_
        refine lv_iload hx hb dX1_ring_117 (lv_at hl 0 rfl) ?_
        obtain ⟨hi13, hf⟩ := zck_some hf
        refine zast (ws' := (wd_Creeps_ring cy o0 a0 (zI s0) (zL s0) (zA s0 1) (zA s0 4) (zA s0 5) (upd (zA s0 7) (Int32.toNatClampNeg (v5 + v7)) (((zA s0 7) (Int32.toNatClampNeg (v4 + v7))) ||| ((1 : Int32) <<< (z4 &&& 31)))))) hx hb hK hP hD hS 4 0 rfl rfl hi13 rfl dX1_ring_119 (fun H locs hP hD hS => ?_)
        refine lv_iinc (v := v7 + 1) (lv' := [(7, .int (v7 + 1)), (9, .int (((zA s0 7) (Int32.toNatClampNeg (v4 + v7))) ||| ((1 : Int32) <<< (z4 &&& 31)))), (8, .int ((1 : Int32) <<< (z4 &&& 31))), (0, .ref o0), (1, .int v1), (2, .int v2), (3, .int v3), (4, .int v4), (5, .int v5), (6, .int v6)]) hx hb dX1_ring_120 hl (k := 9) rfl rfl (by decide) rfl (fun ls hl => ?_)
        refine lv_goto (tgt := 26) hx hb dX1_ring_123 (by decide) ?_
        exact hk26 (zsA s0 7 (upd (zA s0 7) (Int32.toNatClampNeg (v5 + v7)) (((zA s0 7) (Int32.toNatClampNeg (v4 + v7))) ||| ((1 : Int32) <<< (z4 &&& 31))))) (v7 + 1) hP hD hS hf _ (lv_sub hl [3, 4, 5, 6, 7, 8, 9, 0] rfl)
      · have hf := zif_f hb_12 hf
        refine lv_iload hx hb dX1_ring_105 (lv_at hl 9 rfl) ?_
        cases hf
        exact zewi hx hb hr hk hK hP hD hS dX1_ring_107
set_option maxHeartbeats 4000000 in
set_option maxRecDepth 100000 in
theorem k_Creeps_ring_h26 {p : Program} {l : Launch} {e : Env} {s : State} {m : MethodId} {args : Array Value} {below : List Frame} {meth : Method} {c : Code} {dC : Nat → ClassId} {dI : Nat → Nat → Nat} {cy : Nat → ClassId} {A : Nat → Prop} {o0 : Nat} {a0 : Nat → Nat} {N : Nat} {y : Int32 × zSt} (C0 : zCx p s m args meth c cX1_ring 10 (some .int) RX1 (dC, dI) cy) (v1 : Int32) (v2 : Int32) (v3 : Int32) (v4 : Int32) (v5 : Int32) (v6 : Int32) (hA : ∀ q, s.heap.size ≤ q → A q) : ∀ (n : Nat) (s0 : zSt) (v7 : Int32) {H : Heap} {locs : List Loc} (hP : va_P (dC, dI) vwCl (wd_Creeps_ring cy o0 a0 (zI s0) (zL s0) (zA s0 1) (zA s0 4) (zA s0 5) (zA s0 7)) H) (hD : va_D A (wd_Creeps_ring cy o0 a0 (zI s0) (zL s0) (zA s0 1) (zA s0 4) (zA s0 5) (zA s0 7))) (hS : va_S A s.heap H locs) (hf : Creeps_ring_h26 N v1 v2 v3 v4 v5 v6 n s0 v7 = some y) (ls : Array Slot) (hl : lv_has ls 10 [(0, .ref o0), (1, .int v1), (2, .int v2), (3, .int v3), (4, .int v4), (5, .int v5), (6, .int v6), (7, .int v7)]), W p l e rm_Creeps_ring s m args below meth c H locs 0 0 (MQ below (zQi y.1 (dC, dI) cy (wd_Creeps_ring cy o0 a0 (zI y.2) (zL y.2) (zA y.2 1) (zA y.2 4) (zA y.2 5) (zA y.2 7)) A) args s 0 0 A) (F0 m 26 ls []) := by
  intro n
  induction n with
  | zero => intro s0 v7 H locs hP hD hS hf; cases hf
  | succ n ih =>
    intro s0 v7 H locs hP hD hS hf ls hl
    have hf : Creeps_ring_b26 N (Creeps_ring_h26 N v1 v2 v3 v4 v5 v6 n) s0 v1 v2 v3 v4 v5 v6 v7 = some y := hf
    exact k_Creeps_ring_b26 C0 s0 v1 v2 v3 v4 v5 v6 v7 (fun s0 v7 _ _ hP hD hS hf ls hl => ih s0 v7 hP hD hS hf ls hl) hA hP hD hS hf ls hl
set_option maxHeartbeats 4000000 in
set_option maxRecDepth 100000 in
theorem k_Creeps_ring_b0 {p : Program} {l : Launch} {e : Env} {s : State} {m : MethodId} {args : Array Value} {below : List Frame} {meth : Method} {c : Code} {dC : Nat → ClassId} {dI : Nat → Nat → Nat} {cy : Nat → ClassId} {A : Nat → Prop} {o0 : Nat} {a0 : Nat → Nat} {N : Nat} {y : Int32 × zSt} (C0 : zCx p s m args meth c cX1_ring 10 (some .int) RX1 (dC, dI) cy) (s0 : zSt) (v1 : Int32) (v2 : Int32) (v3 : Int32) (hA : ∀ q, s.heap.size ≤ q → A q) {H : Heap} {locs : List Loc} (hP : va_P (dC, dI) vwCl (wd_Creeps_ring cy o0 a0 (zI s0) (zL s0) (zA s0 1) (zA s0 4) (zA s0 5) (zA s0 7)) H) (hD : va_D A (wd_Creeps_ring cy o0 a0 (zI s0) (zL s0) (zA s0 1) (zA s0 4) (zA s0 5) (zA s0 7))) (hS : va_S A s.heap H locs) (hf : Creeps_ring_b0 N s0 v1 v2 v3 = some y) (ls : Array Slot) (hl : lv_has ls 10 [(0, .ref o0), (1, .int v1), (2, .int v2), (3, .int v3)]) : W p l e rm_Creeps_ring s m args below meth c H locs 0 0 (MQ below (zQi y.1 (dC, dI) cy (wd_Creeps_ring cy o0 a0 (zI y.2) (zL y.2) (zA y.2 1) (zA y.2 4) (zA y.2 5) (zA y.2 7)) A) args s 0 0 A) (F0 m 0 ls []) := by
  obtain ⟨hx, hb, hr, hml, hown, hT, hk, hK⟩ := id C0
  refine lv_iload_n hx hb dX1_ring_0 rfl (lv_at hl 1 rfl) ?_
  refine lv_bipush (v := 40) hx hb dX1_ring_1 (by decide) ?_
  refine lv_imul hx hb dX1_ring_3 ?_
  refine lv_istore (lv' := [(4, .int (v1 * 40)), (0, .ref o0), (1, .int v1), (2, .int v2), (3, .int v3)]) hx hb dX1_ring_4 hl (by decide) rfl (fun ls hl => ?_)
  refine lv_iload hx hb dX1_ring_6 (lv_at hl 0 rfl) ?_
  refine lv_bipush (v := 40) hx hb dX1_ring_8 (by decide) ?_
  refine lv_iadd hx hb dX1_ring_10 ?_
  refine lv_istore (lv' := [(5, .int ((v1 * 40) + 40)), (4, .int (v1 * 40)), (0, .ref o0), (1, .int v1), (2, .int v2), (3, .int v3)]) hx hb dX1_ring_11 hl (by decide) rfl (fun ls hl => ?_)
  refine lv_aload_n hx hb dX1_ring_13 rfl (lv_at hl 2 rfl) ?_
  refine zget (v := .int (zI s0 0)) hx hb hown hT hK hP inX1 rfl smX1 0 rfl 0 (by decide) tb_384 rfl dX1_ring_14 ?_
  refine lv_iload_n hx hb dX1_ring_17 rfl (lv_at hl 3 rfl) ?_
  refine lv_isub hx hb dX1_ring_18 ?_
  refine lv_iconst (v := 1) hx hb dX1_ring_19 (by decide) ?_
  refine lv_isub hx hb dX1_ring_20 ?_
  refine lv_istore (lv' := [(6, .int (((zI s0 0) - v1) - 1)), (5, .int ((v1 * 40) + 40)), (4, .int (v1 * 40)), (0, .ref o0), (1, .int v1), (2, .int v2), (3, .int v3)]) hx hb dX1_ring_21 hl (by decide) rfl (fun ls hl => ?_)
  refine lv_iconst (v := 0) hx hb dX1_ring_23 (by decide) ?_
  refine lv_istore (lv' := [(7, .int 0), (6, .int (((zI s0 0) - v1) - 1)), (5, .int ((v1 * 40) + 40)), (4, .int (v1 * 40)), (0, .ref o0), (1, .int v1), (2, .int v2), (3, .int v3)]) hx hb dX1_ring_24 hl (by decide) rfl (fun ls hl => ?_)
  exact k_Creeps_ring_h26 C0 v1 v2 v3 (v1 * 40) ((v1 * 40) + 40) (((zI s0 0) - v1) - 1)  hA N s0 0 hP hD hS hf _ (lv_sub hl [4, 5, 6, 7, 3, 2, 1, 0] rfl)
set_option maxHeartbeats 4000000 in
set_option maxRecDepth 100000 in
theorem c_Creeps_ring {l : Launch} {dC : Nat → ClassId} {dI : Nat → Nat → Nat} {cy : Nat → ClassId} {sz : Nat} {N : Nat} (o0 : Nat) (a0 : Nat → Nat) (s0 : zSt) (v1 : Int32) (v2 : Int32) (v3 : Int32) {y : Int32 × zSt} (hf : Creeps_ring N s0 v1 v2 v3 = some y) : Met l yX1_ring (.code yX1_ring cX1_ring 10 (some .int) :: zt) rm_Creeps_ring (va_Pc [.ref o0, .int v1, .int v2, .int v3] (zPre (dC, dI) cy (wd_Creeps_ring cy o0 a0 (zI s0) (zL s0) (zA s0 1) (zA s0 4) (zA s0 5) (zA s0 7)) sz)) (zQi y.1 (dC, dI) cy (wd_Creeps_ring cy o0 a0 (zI y.2) (zL y.2) (zA y.2 1) (zA y.2 4) (zA y.2 5) (zA y.2 7)) (va_A (wd_Creeps_ring cy o0 a0 (zI s0) (zL s0) (zA s0 1) (zA s0 4) (zA s0 5) (zA s0 7)) sz)) 0 0 (va_A (wd_Creeps_ring cy o0 a0 (zI s0) (zL s0) (zA s0 1) (zA s0 4) (zA s0 5) (zA s0 7)) sz) :=
  zentW (Qw := fun A => (zQi y.1 (dC, dI) cy (wd_Creeps_ring cy o0 a0 (zI y.2) (zL y.2) (zA y.2 1) (zA y.2 4) (zA y.2 5) (zA y.2 7)) A)) (by decide +kernel) (Nat.le_of_ble_eq_true rfl) (fun p e s m below meth c A C0 hA hP hD hS ls hl => k_Creeps_ring_b0 C0 s0 v1 v2 v3 hA hP hD hS hf ls hl)
def wd_Creeps_seekLeast (cy : Nat → ClassId) (o0 : Nat) (a0 : Nat → Nat) (g0 : Nat → Int32) (h0 : Nat → Int64) (x0_1 : Nat → Int32) (x0_4 : Nat → Int32) (x0_5 : Nat → Int32) (x0_6 : Nat → Int32) (x0_7 : Nat → Int32) (o1 n1 : Nat) (f1 : Nat → Int32) : va_W := [(o0, .inr (1, fs_Creeps a0 g0 h0)), (a0 1, .inl (cy 0, 8, .inl x0_1)), (a0 4, .inl (cy 0, 40, .inl x0_4)), (a0 5, .inl (cy 0, 40, .inl x0_5)), (a0 6, .inl (cy 0, 8, .inl x0_6)), (a0 7, .inl (cy 0, 360, .inl x0_7)), (o1, .inl (cy 0, n1, .inl f1))]
def rm_Creeps_seekLeast (d : Nat) : Room := { frames := 3 + d, cells := 0, slots := 0, locals := 91 + d * 24 }
theorem rm_ok_Creeps_seekLeast_Creeps_ring {d : Nat} : rm_Creeps_ring.cells = 0 ∧ rm_Creeps_ring.slots = 0 ∧ rm_Creeps_ring.frames + 1 ≤ (rm_Creeps_seekLeast (d + 1)).frames ∧ 8 + (10 + 11) + rm_Creeps_ring.locals ≤ (rm_Creeps_seekLeast (d + 1)).locals := ⟨rfl, rfl, by simp only [rm_Creeps_seekLeast, rm_Creeps_ring]; omega, by simp only [rm_Creeps_seekLeast, rm_Creeps_ring]; omega⟩
theorem rm_ok_Creeps_seekLeast_Creeps_seekLeast {d : Nat} : (rm_Creeps_seekLeast d).cells = 0 ∧ (rm_Creeps_seekLeast d).slots = 0 ∧ (rm_Creeps_seekLeast d).frames + 1 ≤ (rm_Creeps_seekLeast (d + 1)).frames ∧ 8 + (5 + 11) + (rm_Creeps_seekLeast d).locals ≤ (rm_Creeps_seekLeast (d + 1)).locals := ⟨rfl, rfl, by simp only [rm_Creeps_seekLeast, rm_Creeps_seekLeast]; omega, by simp only [rm_Creeps_seekLeast, rm_Creeps_seekLeast]; omega⟩
set_option maxHeartbeats 4000000 in
set_option maxRecDepth 100000 in
theorem k_Creeps_seekLeast_b84 {p : Program} {l : Launch} {e : Env} {s : State} {m : MethodId} {args : Array Value} {below : List Frame} {meth : Method} {c : Code} {dC : Nat → ClassId} {dI : Nat → Nat → Nat} {cy : Nat → ClassId} {A : Nat → Prop} {o0 : Nat} {a0 : Nat → Nat} {o1 : Nat} {N : Nat} {d : Nat} {kr : zSt → Nat → (Nat → Int32) → Int32 → Int32 → Option (zSt × (Nat → Int32))} {kh40 : zSt → (Nat → Int32) → Int32 → Option (zSt × (Nat → Int32))} {y : zSt × (Nat → Int32)} (C0 : zCx p s m args meth c cX1_seekLeast 5 none RX1 (dC, dI) cy) (s0 : zSt) (n1 : Nat) (f1 : Nat → Int32) (v1 : Int32) (v2 : Int32) (v4 : Int32) (hkr : ∀ {sz : Nat} (o0 : Nat) (a0 : Nat → Nat) (s0 : zSt) (o1 n1 : Nat) (f1 : Nat → Int32) (v1 : Int32) (v2 : Int32) {y : zSt × (Nat → Int32)}, kr s0 n1 f1 v1 v2 = some y → Met l yX1_seekLeast (.code yX1_seekLeast cX1_seekLeast 5 none :: zt) (rm_Creeps_seekLeast d) (va_Pc [.ref o0, .int v1, .int v2, .ref o1] (zPre (dC, dI) cy (wd_Creeps_seekLeast cy o0 a0 (zI s0) (zL s0) (zA s0 1) (zA s0 4) (zA s0 5) (zA s0 6) (zA s0 7) o1 n1 f1) sz)) (zQv (dC, dI) cy (wd_Creeps_seekLeast cy o0 a0 (zI y.1) (zL y.1) (zA y.1 1) (zA y.1 4) (zA y.1 5) (zA y.1 6) (zA y.1 7) o1 n1 y.2) (va_A (wd_Creeps_seekLeast cy o0 a0 (zI s0) (zL s0) (zA s0 1) (zA s0 4) (zA s0 5) (zA s0 6) (zA s0 7) o1 n1 f1) sz)) 0 0 (va_A (wd_Creeps_seekLeast cy o0 a0 (zI s0) (zL s0) (zA s0 1) (zA s0 4) (zA s0 5) (zA s0 6) (zA s0 7) o1 n1 f1) sz)) (hk40 : ∀ (s0 : zSt) (f1 : (Nat → Int32)) (v4 : Int32) {H : Heap} {locs : List Loc} (_ : va_P (dC, dI) vwCl (wd_Creeps_seekLeast cy o0 a0 (zI s0) (zL s0) (zA s0 1) (zA s0 4) (zA s0 5) (zA s0 6) (zA s0 7) o1 n1 f1) H) (_ : va_D A (wd_Creeps_seekLeast cy o0 a0 (zI s0) (zL s0) (zA s0 1) (zA s0 4) (zA s0 5) (zA s0 6) (zA s0 7) o1 n1 f1)) (_ : va_S A s.heap H locs) (_ : kh40 s0 f1 v4 = some y) (ls : Array Slot) (_ : lv_has ls 5 [(0, .ref o0), (1, .int v1), (2, .int v2), (3, .ref o1), (4, .int v4)]), W p l e (rm_Creeps_seekLeast (d + 1)) s m args below meth c H locs 0 0 (MQ below (zQv (dC, dI) cy (wd_Creeps_seekLeast cy o0 a0 (zI y.1) (zL y.1) (zA y.1 1) (zA y.1 4) (zA y.1 5) (zA y.1 6) (zA y.1 7) o1 n1 y.2) A) args s 0 0 A) (F0 m 40 ls [])) (hA : ∀ q, s.heap.size ≤ q → A q) {H : Heap} {locs : List Loc} (hP : va_P (dC, dI) vwCl (wd_Creeps_seekLeast cy o0 a0 (zI s0) (zL s0) (zA s0 1) (zA s0 4) (zA s0 5) (zA s0 6) (zA s0 7) o1 n1 f1) H) (hD : va_D A (wd_Creeps_seekLeast cy o0 a0 (zI s0) (zL s0) (zA s0 1) (zA s0 4) (zA s0 5) (zA s0 6) (zA s0 7) o1 n1 f1)) (hS : va_S A s.heap H locs) (hf : Creeps_seekLeast_b84 N kr kh40 s0 n1 f1 v1 v2 v4 = some y) (ls : Array Slot) (hl : lv_has ls 5 [(0, .ref o0), (1, .int v1), (2, .int v2), (3, .ref o1), (4, .int v4)]) : W p l e (rm_Creeps_seekLeast (d + 1)) s m args below meth c H locs 0 0 (MQ below (zQv (dC, dI) cy (wd_Creeps_seekLeast cy o0 a0 (zI y.1) (zL y.1) (zA y.1 1) (zA y.1 4) (zA y.1 5) (zA y.1 6) (zA y.1 7) o1 n1 y.2) A) args s 0 0 A) (F0 m 84 ls []) := by
  obtain ⟨hx, hb, hr, hml, hown, hT, hk, hK⟩ := id C0
  refine lv_iinc (v := v4 + 1) (lv' := [(4, .int (v4 + 1)), (0, .ref o0), (1, .int v1), (2, .int v2), (3, .ref o1)]) hx hb dX1_seekLeast_84 hl (k := 4) rfl rfl (by decide) rfl (fun ls hl => ?_)
  refine lv_goto (tgt := 40) hx hb dX1_seekLeast_87 (by decide) ?_
  exact hk40 s0 f1 (v4 + 1) hP hD hS hf _ (lv_sub hl [1, 2, 3, 4, 0] rfl)
set_option maxHeartbeats 4000000 in
set_option maxRecDepth 100000 in
theorem k_Creeps_seekLeast_b40 {p : Program} {l : Launch} {e : Env} {s : State} {m : MethodId} {args : Array Value} {below : List Frame} {meth : Method} {c : Code} {dC : Nat → ClassId} {dI : Nat → Nat → Nat} {cy : Nat → ClassId} {A : Nat → Prop} {o0 : Nat} {a0 : Nat → Nat} {o1 : Nat} {N : Nat} {d : Nat} {kr : zSt → Nat → (Nat → Int32) → Int32 → Int32 → Option (zSt × (Nat → Int32))} {kh40 : zSt → (Nat → Int32) → Int32 → Option (zSt × (Nat → Int32))} {y : zSt × (Nat → Int32)} (C0 : zCx p s m args meth c cX1_seekLeast 5 none RX1 (dC, dI) cy) (s0 : zSt) (n1 : Nat) (f1 : Nat → Int32) (v1 : Int32) (v2 : Int32) (v4 : Int32) (hkr : ∀ {sz : Nat} (o0 : Nat) (a0 : Nat → Nat) (s0 : zSt) (o1 n1 : Nat) (f1 : Nat → Int32) (v1 : Int32) (v2 : Int32) {y : zSt × (Nat → Int32)}, kr s0 n1 f1 v1 v2 = some y → Met l yX1_seekLeast (.code yX1_seekLeast cX1_seekLeast 5 none :: zt) (rm_Creeps_seekLeast d) (va_Pc [.ref o0, .int v1, .int v2, .ref o1] (zPre (dC, dI) cy (wd_Creeps_seekLeast cy o0 a0 (zI s0) (zL s0) (zA s0 1) (zA s0 4) (zA s0 5) (zA s0 6) (zA s0 7) o1 n1 f1) sz)) (zQv (dC, dI) cy (wd_Creeps_seekLeast cy o0 a0 (zI y.1) (zL y.1) (zA y.1 1) (zA y.1 4) (zA y.1 5) (zA y.1 6) (zA y.1 7) o1 n1 y.2) (va_A (wd_Creeps_seekLeast cy o0 a0 (zI s0) (zL s0) (zA s0 1) (zA s0 4) (zA s0 5) (zA s0 6) (zA s0 7) o1 n1 f1) sz)) 0 0 (va_A (wd_Creeps_seekLeast cy o0 a0 (zI s0) (zL s0) (zA s0 1) (zA s0 4) (zA s0 5) (zA s0 6) (zA s0 7) o1 n1 f1) sz)) (hk40 : ∀ (s0 : zSt) (f1 : (Nat → Int32)) (v4 : Int32) {H : Heap} {locs : List Loc} (_ : va_P (dC, dI) vwCl (wd_Creeps_seekLeast cy o0 a0 (zI s0) (zL s0) (zA s0 1) (zA s0 4) (zA s0 5) (zA s0 6) (zA s0 7) o1 n1 f1) H) (_ : va_D A (wd_Creeps_seekLeast cy o0 a0 (zI s0) (zL s0) (zA s0 1) (zA s0 4) (zA s0 5) (zA s0 6) (zA s0 7) o1 n1 f1)) (_ : va_S A s.heap H locs) (_ : kh40 s0 f1 v4 = some y) (ls : Array Slot) (_ : lv_has ls 5 [(0, .ref o0), (1, .int v1), (2, .int v2), (3, .ref o1), (4, .int v4)]), W p l e (rm_Creeps_seekLeast (d + 1)) s m args below meth c H locs 0 0 (MQ below (zQv (dC, dI) cy (wd_Creeps_seekLeast cy o0 a0 (zI y.1) (zL y.1) (zA y.1 1) (zA y.1 4) (zA y.1 5) (zA y.1 6) (zA y.1 7) o1 n1 y.2) A) args s 0 0 A) (F0 m 40 ls [])) (hA : ∀ q, s.heap.size ≤ q → A q) {H : Heap} {locs : List Loc} (hP : va_P (dC, dI) vwCl (wd_Creeps_seekLeast cy o0 a0 (zI s0) (zL s0) (zA s0 1) (zA s0 4) (zA s0 5) (zA s0 6) (zA s0 7) o1 n1 f1) H) (hD : va_D A (wd_Creeps_seekLeast cy o0 a0 (zI s0) (zL s0) (zA s0 1) (zA s0 4) (zA s0 5) (zA s0 6) (zA s0 7) o1 n1 f1)) (hS : va_S A s.heap H locs) (hf : Creeps_seekLeast_b40 N kr kh40 s0 n1 f1 v1 v2 v4 = some y) (ls : Array Slot) (hl : lv_has ls 5 [(0, .ref o0), (1, .int v1), (2, .int v2), (3, .ref o1), (4, .int v4)]) : W p l e (rm_Creeps_seekLeast (d + 1)) s m args below meth c H locs 0 0 (MQ below (zQv (dC, dI) cy (wd_Creeps_seekLeast cy o0 a0 (zI y.1) (zL y.1) (zA y.1 1) (zA y.1 4) (zA y.1 5) (zA y.1 6) (zA y.1 7) o1 n1 y.2) A) args s 0 0 A) (F0 m 40 ls []) := by
  obtain ⟨hx, hb, hr, hml, hown, hT, hk, hK⟩ := id C0
  refine lv_iload hx hb dX1_seekLeast_40 (lv_at hl 4 rfl) ?_
  refine lv_iconst (v := 2) hx hb dX1_seekLeast_42 (by decide) ?_
  refine lv_icmp_gt (tgt := 90) hx hb dX1_seekLeast_43 (by decide) (fun hb_1 => ?_) (fun hb_1 => ?_)
  · have hf := zif_t hb_1 hf
    cases hf
    exact zewv hx hb hr hk hK hP hD hS dX1_seekLeast_90
  · have hf := zif_f hb_1 hf
    refine lv_aload_n hx hb dX1_seekLeast_46 rfl (lv_at hl 0 rfl) ?_
    refine zget (v := .ref (a0 6)) hx hb hown hT hK hP inX1 rfl smX1 0 rfl 6 (by decide) tb_390 rfl dX1_seekLeast_47 ?_
    refine lv_iload_n hx hb dX1_seekLeast_50 rfl (lv_at hl 1 rfl) ?_
    refine lv_iload hx hb dX1_seekLeast_51 (lv_at hl 4 rfl) ?_
    obtain ⟨hi2, hf⟩ := zck_some hf
    refine zast (ws' := (wd_Creeps_seekLeast cy o0 a0 (zI s0) (zL s0) (zA s0 1) (zA s0 4) (zA s0 5) (upd (zA s0 6) (Int32.toNatClampNeg v1) v4) (zA s0 7) o1 n1 f1)) hx hb hK hP hD hS 4 0 rfl rfl hi2 rfl dX1_seekLeast_53 (fun H locs hP hD hS => ?_)
    refine lv_aload_n hx hb dX1_seekLeast_54 rfl (lv_at hl 0 rfl) ?_
    refine lv_iload_n hx hb dX1_seekLeast_55 rfl (lv_at hl 1 rfl) ?_
    refine lv_iload hx hb dX1_seekLeast_56 (lv_at hl 4 rfl) ?_
    refine lv_aload_n hx hb dX1_seekLeast_58 rfl (lv_at hl 0 rfl) ?_
    refine zget (v := .int (zI s0 2)) hx hb hown hT hK hP inX1 rfl smX1 0 rfl 2 (by decide) tb_386 rfl dX1_seekLeast_59 ?_
    obtain ⟨z3, hc4, hf⟩ := zbd_some hf
    refine zwi (wr := [(a0 6, .inl (cy 0, 8, .inl (upd (zA s0 6) (Int32.toNatClampNeg v1) v4))), (o1, .inl (cy 0, n1, .inl f1))]) (ws' := (wd_Creeps_seekLeast cy o0 a0 (zI z3.2) (zL z3.2) (zA z3.2 1) (zA z3.2 4) (zA z3.2 5) (upd (zA s0 6) (Int32.toNatClampNeg v1) v4) (zA z3.2 7) o1 n1 f1)) (zV (As := [.int v1, .int v4, .int (zI s0 2)]) hx hb hml hown hT hl.1 (c_Creeps_ring o0 a0 (zsA s0 6 (upd (zA s0 6) (Int32.toNatClampNeg v1) v4)) v1 v4 (zI s0 2) hc4) zY_Creeps_ring tb_908 (zpRw hK hP hD [0, 1, 2, 3, 5] (by decide) rfl 0 1 rfl rfl rfl rfl) rm_ok_Creeps_seekLeast_Creeps_ring rfl rfl (Nat.le_of_ble_eq_true rfl) dX1_seekLeast_62 ⟨Nat.zero_le _, Nat.zero_le _⟩) hP hD hS hA [0, 1, 2, 3, 5] [4, 6] [2, 3, 4, 5, 0, 6, 1] rfl rfl (by decide) (by decide) (by decide) rfl rfl (fun H locs hP hD hS => ?_)
    refine lv_aload_n hx hb dX1_seekLeast_65 rfl (lv_at hl 0 rfl) ?_
    refine zget (v := .int (zI z3.2 2)) hx hb hown hT hK hP inX1 rfl smX1 0 rfl 2 (by decide) tb_386 rfl dX1_seekLeast_66 ?_
    refine lv_icmp_ne (tgt := 84) hx hb dX1_seekLeast_69 (by decide) (fun hb_5 => ?_) (fun hb_5 => ?_)
    · have hf := zif_f hb_5 hf
      exact k_Creeps_seekLeast_b84 C0 (zmg [6] z3.2 (zsA s0 6 (upd (zA s0 6) (Int32.toNatClampNeg v1) v4))) n1 f1 v1 v2 v4 hkr hk40 hA hP hD hS hf _ (lv_sub hl [0, 1, 2, 3, 4] rfl)
    · have hf := zif_t hb_5 hf
      refine lv_aload_n hx hb dX1_seekLeast_72 rfl (lv_at hl 0 rfl) ?_
      refine lv_iload_n hx hb dX1_seekLeast_73 rfl (lv_at hl 1 rfl) ?_
      refine lv_iconst (v := 1) hx hb dX1_seekLeast_74 (by decide) ?_
      refine lv_iadd hx hb dX1_seekLeast_75 ?_
      refine lv_iload_n hx hb dX1_seekLeast_76 rfl (lv_at hl 2 rfl) ?_
      refine lv_iload hx hb dX1_seekLeast_77 (lv_at hl 4 rfl) ?_
      refine lv_iadd hx hb dX1_seekLeast_79 ?_
      refine lv_aload_n hx hb dX1_seekLeast_80 rfl (lv_at hl 3 rfl) ?_
      obtain ⟨z6, hc7, hf⟩ := zbd_some hf
      refine zwv (wr := []) (ws' := (wd_Creeps_seekLeast cy o0 a0 (zI z6.1) (zL z6.1) (zA z6.1 1) (zA z6.1 4) (zA z6.1 5) (zA z6.1 6) (zA z6.1 7) o1 n1 z6.2)) (zV (As := [.int (v1 + 1), .int (v2 + v4), .ref o1]) hx hb hml hown hT hl.1 (hkr o0 a0 (zmg [6] z3.2 (zsA s0 6 (upd (zA s0 6) (Int32.toNatClampNeg v1) v4))) o1 n1 f1 (v1 + 1) (v2 + v4) hc7) zY_Creeps_seekLeast tb_901 (zpRw hK hP hD [0, 1, 2, 3, 4, 5, 6] (by decide) rfl 0 1 rfl rfl rfl rfl) rm_ok_Creeps_seekLeast_Creeps_seekLeast rfl rfl (Nat.le_of_ble_eq_true rfl) dX1_seekLeast_81 ⟨Nat.zero_le _, Nat.zero_le _⟩) hP hD hS hA [0, 1, 2, 3, 4, 5, 6] [] [0, 1, 2, 3, 4, 5, 6] rfl rfl (by decide) (by decide) (by decide) rfl rfl (fun H locs hP hD hS => ?_)
      exact k_Creeps_seekLeast_b84 C0 z6.1 n1 z6.2 v1 v2 v4 hkr hk40 hA hP hD hS hf _ (lv_sub hl [0, 1, 2, 3, 4] rfl)
set_option maxHeartbeats 4000000 in
set_option maxRecDepth 100000 in
theorem k_Creeps_seekLeast_h40 {p : Program} {l : Launch} {e : Env} {s : State} {m : MethodId} {args : Array Value} {below : List Frame} {meth : Method} {c : Code} {dC : Nat → ClassId} {dI : Nat → Nat → Nat} {cy : Nat → ClassId} {A : Nat → Prop} {o0 : Nat} {a0 : Nat → Nat} {o1 : Nat} {N : Nat} {d : Nat} {kr : zSt → Nat → (Nat → Int32) → Int32 → Int32 → Option (zSt × (Nat → Int32))} {y : zSt × (Nat → Int32)} (C0 : zCx p s m args meth c cX1_seekLeast 5 none RX1 (dC, dI) cy) (n1 : Nat) (v1 : Int32) (v2 : Int32) (hkr : ∀ {sz : Nat} (o0 : Nat) (a0 : Nat → Nat) (s0 : zSt) (o1 n1 : Nat) (f1 : Nat → Int32) (v1 : Int32) (v2 : Int32) {y : zSt × (Nat → Int32)}, kr s0 n1 f1 v1 v2 = some y → Met l yX1_seekLeast (.code yX1_seekLeast cX1_seekLeast 5 none :: zt) (rm_Creeps_seekLeast d) (va_Pc [.ref o0, .int v1, .int v2, .ref o1] (zPre (dC, dI) cy (wd_Creeps_seekLeast cy o0 a0 (zI s0) (zL s0) (zA s0 1) (zA s0 4) (zA s0 5) (zA s0 6) (zA s0 7) o1 n1 f1) sz)) (zQv (dC, dI) cy (wd_Creeps_seekLeast cy o0 a0 (zI y.1) (zL y.1) (zA y.1 1) (zA y.1 4) (zA y.1 5) (zA y.1 6) (zA y.1 7) o1 n1 y.2) (va_A (wd_Creeps_seekLeast cy o0 a0 (zI s0) (zL s0) (zA s0 1) (zA s0 4) (zA s0 5) (zA s0 6) (zA s0 7) o1 n1 f1) sz)) 0 0 (va_A (wd_Creeps_seekLeast cy o0 a0 (zI s0) (zL s0) (zA s0 1) (zA s0 4) (zA s0 5) (zA s0 6) (zA s0 7) o1 n1 f1) sz)) (hA : ∀ q, s.heap.size ≤ q → A q) : ∀ (n : Nat) (s0 : zSt) (f1 : (Nat → Int32)) (v4 : Int32) {H : Heap} {locs : List Loc} (hP : va_P (dC, dI) vwCl (wd_Creeps_seekLeast cy o0 a0 (zI s0) (zL s0) (zA s0 1) (zA s0 4) (zA s0 5) (zA s0 6) (zA s0 7) o1 n1 f1) H) (hD : va_D A (wd_Creeps_seekLeast cy o0 a0 (zI s0) (zL s0) (zA s0 1) (zA s0 4) (zA s0 5) (zA s0 6) (zA s0 7) o1 n1 f1)) (hS : va_S A s.heap H locs) (hf : Creeps_seekLeast_h40 N kr n1 v1 v2 n s0 f1 v4 = some y) (ls : Array Slot) (hl : lv_has ls 5 [(0, .ref o0), (1, .int v1), (2, .int v2), (3, .ref o1), (4, .int v4)]), W p l e (rm_Creeps_seekLeast (d + 1)) s m args below meth c H locs 0 0 (MQ below (zQv (dC, dI) cy (wd_Creeps_seekLeast cy o0 a0 (zI y.1) (zL y.1) (zA y.1 1) (zA y.1 4) (zA y.1 5) (zA y.1 6) (zA y.1 7) o1 n1 y.2) A) args s 0 0 A) (F0 m 40 ls []) := by
  intro n
  induction n with
  | zero => intro s0 f1 v4 H locs hP hD hS hf; cases hf
  | succ n ih =>
    intro s0 f1 v4 H locs hP hD hS hf ls hl
    have hf : Creeps_seekLeast_b40 N kr (Creeps_seekLeast_h40 N kr n1 v1 v2 n) s0 n1 f1 v1 v2 v4 = some y := hf
    exact k_Creeps_seekLeast_b40 C0 s0 n1 f1 v1 v2 v4 hkr (fun s0 f1 v4 _ _ hP hD hS hf ls hl => ih s0 f1 v4 hP hD hS hf ls hl) hA hP hD hS hf ls hl
set_option maxHeartbeats 4000000 in
set_option maxRecDepth 100000 in
theorem k_Creeps_seekLeast_b0 {p : Program} {l : Launch} {e : Env} {s : State} {m : MethodId} {args : Array Value} {below : List Frame} {meth : Method} {c : Code} {dC : Nat → ClassId} {dI : Nat → Nat → Nat} {cy : Nat → ClassId} {A : Nat → Prop} {o0 : Nat} {a0 : Nat → Nat} {o1 : Nat} {N : Nat} {d : Nat} {kr : zSt → Nat → (Nat → Int32) → Int32 → Int32 → Option (zSt × (Nat → Int32))} {y : zSt × (Nat → Int32)} (C0 : zCx p s m args meth c cX1_seekLeast 5 none RX1 (dC, dI) cy) (s0 : zSt) (n1 : Nat) (f1 : Nat → Int32) (v1 : Int32) (v2 : Int32) (hkr : ∀ {sz : Nat} (o0 : Nat) (a0 : Nat → Nat) (s0 : zSt) (o1 n1 : Nat) (f1 : Nat → Int32) (v1 : Int32) (v2 : Int32) {y : zSt × (Nat → Int32)}, kr s0 n1 f1 v1 v2 = some y → Met l yX1_seekLeast (.code yX1_seekLeast cX1_seekLeast 5 none :: zt) (rm_Creeps_seekLeast d) (va_Pc [.ref o0, .int v1, .int v2, .ref o1] (zPre (dC, dI) cy (wd_Creeps_seekLeast cy o0 a0 (zI s0) (zL s0) (zA s0 1) (zA s0 4) (zA s0 5) (zA s0 6) (zA s0 7) o1 n1 f1) sz)) (zQv (dC, dI) cy (wd_Creeps_seekLeast cy o0 a0 (zI y.1) (zL y.1) (zA y.1 1) (zA y.1 4) (zA y.1 5) (zA y.1 6) (zA y.1 7) o1 n1 y.2) (va_A (wd_Creeps_seekLeast cy o0 a0 (zI s0) (zL s0) (zA s0 1) (zA s0 4) (zA s0 5) (zA s0 6) (zA s0 7) o1 n1 f1) sz)) 0 0 (va_A (wd_Creeps_seekLeast cy o0 a0 (zI s0) (zL s0) (zA s0 1) (zA s0 4) (zA s0 5) (zA s0 6) (zA s0 7) o1 n1 f1) sz)) (hA : ∀ q, s.heap.size ≤ q → A q) {H : Heap} {locs : List Loc} (hP : va_P (dC, dI) vwCl (wd_Creeps_seekLeast cy o0 a0 (zI s0) (zL s0) (zA s0 1) (zA s0 4) (zA s0 5) (zA s0 6) (zA s0 7) o1 n1 f1) H) (hD : va_D A (wd_Creeps_seekLeast cy o0 a0 (zI s0) (zL s0) (zA s0 1) (zA s0 4) (zA s0 5) (zA s0 6) (zA s0 7) o1 n1 f1)) (hS : va_S A s.heap H locs) (hf : Creeps_seekLeast_b0 N kr s0 n1 f1 v1 v2 = some y) (ls : Array Slot) (hl : lv_has ls 5 [(0, .ref o0), (1, .int v1), (2, .int v2), (3, .ref o1)]) : W p l e (rm_Creeps_seekLeast (d + 1)) s m args below meth c H locs 0 0 (MQ below (zQv (dC, dI) cy (wd_Creeps_seekLeast cy o0 a0 (zI y.1) (zL y.1) (zA y.1 1) (zA y.1 4) (zA y.1 5) (zA y.1 6) (zA y.1 7) o1 n1 y.2) A) args s 0 0 A) (F0 m 0 ls []) := by
  obtain ⟨hx, hb, hr, hml, hown, hT, hk, hK⟩ := id C0
  refine lv_iload_n hx hb dX1_seekLeast_0 rfl (lv_at hl 2 rfl) ?_
  refine lv_aload_n hx hb dX1_seekLeast_1 rfl (lv_at hl 0 rfl) ?_
  refine zget (v := .int (zI s0 8)) hx hb hown hT hK hP inX1 rfl smX1 0 rfl 8 (by decide) tb_392 rfl dX1_seekLeast_2 ?_
  refine lv_icmp_lt (tgt := 9) hx hb dX1_seekLeast_5 (by decide) (fun hb_1 => ?_) (fun hb_1 => ?_)
  · have hf := zif_t hb_1 hf
    refine lv_iload_n hx hb dX1_seekLeast_9 rfl (lv_at hl 1 rfl) ?_
    refine lv_aload_n hx hb dX1_seekLeast_10 rfl (lv_at hl 0 rfl) ?_
    refine zget (v := .int (zI s0 0)) hx hb hown hT hK hP inX1 rfl smX1 0 rfl 0 (by decide) tb_384 rfl dX1_seekLeast_11 ?_
    refine lv_icmp_lt (tgt := 37) hx hb dX1_seekLeast_14 (by decide) (fun hb_2 => ?_) (fun hb_2 => ?_)
    · have hf := zif_t hb_2 hf
      refine lv_iconst (v := 0) hx hb dX1_seekLeast_37 (by decide) ?_
      refine lv_istore (lv' := [(4, .int 0), (0, .ref o0), (1, .int v1), (2, .int v2), (3, .ref o1)]) hx hb dX1_seekLeast_38 hl (by decide) rfl (fun ls hl => ?_)
      exact k_Creeps_seekLeast_h40 C0 n1 v1 v2 hkr hA N s0 f1 0 hP hD hS hf _ (lv_sub hl [1, 2, 3, 4, 0] rfl)
    · have hf := zif_f hb_2 hf
      refine lv_aload_n hx hb dX1_seekLeast_17 rfl (lv_at hl 0 rfl) ?_
      refine lv_iload_n hx hb dX1_seekLeast_18 rfl (lv_at hl 2 rfl) ?_
      refine zput (fs' := fs_Creeps a0 (upd (zI s0) 8 v2) (zL s0)) (ws' := (wd_Creeps_seekLeast cy o0 a0 (upd (zI s0) 8 v2) (zL s0) (zA s0 1) (zA s0 4) (zA s0 5) (zA s0 6) (zA s0 7) o1 n1 f1)) hx hb hown hT hK hP hD hS inX1 rfl smX1 tyX1_ok nmX1 0 rfl 8 (by decide) tb_392 rfl rfl rfl (Nat.le_of_ble_eq_true rfl) rfl rfl dX1_seekLeast_19 (fun H locs hP hD hS => ?_)
      refine lv_aload_n hx hb dX1_seekLeast_22 rfl (lv_at hl 0 rfl) ?_
      refine zget (v := .ref (a0 6)) hx hb hown hT hK hP inX1 rfl smX1 0 rfl 6 (by decide) tb_390 rfl dX1_seekLeast_23 ?_
      refine lv_iconst (v := 0) hx hb dX1_seekLeast_26 (by decide) ?_
      refine lv_aload_n hx hb dX1_seekLeast_27 rfl (lv_at hl 3 rfl) ?_
      refine lv_iconst (v := 0) hx hb dX1_seekLeast_28 (by decide) ?_
      refine lv_aload_n hx hb dX1_seekLeast_29 rfl (lv_at hl 0 rfl) ?_
      refine zget (v := .int (zI s0 0)) hx hb hown hT hK hP inX1 rfl smX1 0 rfl 0 (by decide) tb_384 rfl dX1_seekLeast_30 ?_
      obtain ⟨hc3, hf⟩ := zcp_some hf
      refine zcpi (ws' := (wd_Creeps_seekLeast cy o0 a0 (upd (zI s0) 8 v2) (zL s0) (zA s0 1) (zA s0 4) (zA s0 5) (zA s0 6) (zA s0 7) o1 n1 (va_cpy (zA s0 6) f1 (Int32.toNatClampNeg 0) (Int32.toNatClampNeg 0) (Int32.toNatClampNeg (zI s0 0))))) hx hb hml hl.1 hown hT tb_905 tb_907 tb_906 tb_16 hK hP hD hS 4 6 rfl rfl rfl rfl hc3 (Nat.le_trans (show 1 ≤ 3 by decide) (Nat.le_add_right _ _)) (Nat.le_trans (show _ ≤ 91 by decide +kernel) (Nat.le_add_right _ _)) rfl dX1_seekLeast_33 (fun H locs hP hD hS => ?_)
      cases hf
      exact zewv hx hb hr hk hK hP hD hS dX1_seekLeast_36
  · have hf := zif_f hb_1 hf
    cases hf
    exact zewv hx hb hr hk hK hP hD hS dX1_seekLeast_8
set_option maxHeartbeats 4000000 in
set_option maxRecDepth 100000 in
theorem c_Creeps_seekLeast {l : Launch} {dC : Nat → ClassId} {dI : Nat → Nat → Nat} {cy : Nat → ClassId} {N : Nat} : ∀ {d : Nat} {sz : Nat} (o0 : Nat) (a0 : Nat → Nat) (s0 : zSt) (o1 n1 : Nat) (f1 : Nat → Int32) (v1 : Int32) (v2 : Int32) {y : zSt × (Nat → Int32)} (hf : Creeps_seekLeast N d s0 n1 f1 v1 v2 = some y), Met l yX1_seekLeast (.code yX1_seekLeast cX1_seekLeast 5 none :: zt) (rm_Creeps_seekLeast d) (va_Pc [.ref o0, .int v1, .int v2, .ref o1] (zPre (dC, dI) cy (wd_Creeps_seekLeast cy o0 a0 (zI s0) (zL s0) (zA s0 1) (zA s0 4) (zA s0 5) (zA s0 6) (zA s0 7) o1 n1 f1) sz)) (zQv (dC, dI) cy (wd_Creeps_seekLeast cy o0 a0 (zI y.1) (zL y.1) (zA y.1 1) (zA y.1 4) (zA y.1 5) (zA y.1 6) (zA y.1 7) o1 n1 y.2) (va_A (wd_Creeps_seekLeast cy o0 a0 (zI s0) (zL s0) (zA s0 1) (zA s0 4) (zA s0 5) (zA s0 6) (zA s0 7) o1 n1 f1) sz)) 0 0 (va_A (wd_Creeps_seekLeast cy o0 a0 (zI s0) (zL s0) (zA s0 1) (zA s0 4) (zA s0 5) (zA s0 6) (zA s0 7) o1 n1 f1) sz) := by
  intro d
  induction d with
  | zero => intro sz o0 a0 s0 o1 n1 f1 v1 v2 y hf; cases hf
  | succ d ih =>
    intro sz o0 a0 s0 o1 n1 f1 v1 v2 y hf
    exact zentW (Qw := fun A => (zQv (dC, dI) cy (wd_Creeps_seekLeast cy o0 a0 (zI y.1) (zL y.1) (zA y.1 1) (zA y.1 4) (zA y.1 5) (zA y.1 6) (zA y.1 7) o1 n1 y.2) A)) (by decide +kernel) (Nat.le_of_ble_eq_true rfl) (fun p e s m below meth c A C0 hA hP hD hS ls hl => k_Creeps_seekLeast_b0 C0 s0 n1 f1 v1 v2 (@fun _ o0 a0 s0 o1 n1 f1 v1 v2 _ h => ih o0 a0 s0 o1 n1 f1 v1 v2 h) hA hP hD hS hf ls hl)
def wd_Creeps_leastTogether (cy : Nat → ClassId) (o0 : Nat) (a0 : Nat → Nat) (g0 : Nat → Int32) (h0 : Nat → Int64) (x0_1 : Nat → Int32) (x0_4 : Nat → Int32) (x0_5 : Nat → Int32) (x0_6 : Nat → Int32) (x0_7 : Nat → Int32) (o1 n1 : Nat) (f1 : Nat → Int32) : va_W := [(o0, .inr (1, fs_Creeps a0 g0 h0)), (a0 1, .inl (cy 0, 8, .inl x0_1)), (a0 4, .inl (cy 0, 40, .inl x0_4)), (a0 5, .inl (cy 0, 40, .inl x0_5)), (a0 6, .inl (cy 0, 8, .inl x0_6)), (a0 7, .inl (cy 0, 360, .inl x0_7)), (o1, .inl (cy 0, n1, .inl f1))]
def rm_Creeps_leastTogether : Room := { frames := 15, cells := 0, slots := 0, locals := 379 }
theorem rm_ok_Creeps_leastTogether_Creeps_countNotTooMany : rm_Creeps_countNotTooMany.cells = 0 ∧ rm_Creeps_countNotTooMany.slots = 0 ∧ rm_Creeps_countNotTooMany.frames + 1 ≤ rm_Creeps_leastTogether.frames ∧ 8 + (2 + 11) + rm_Creeps_countNotTooMany.locals ≤ rm_Creeps_leastTogether.locals := by decide
theorem rm_ok_Creeps_leastTogether_Creeps_seekLeast : (rm_Creeps_seekLeast 11).cells = 0 ∧ (rm_Creeps_seekLeast 11).slots = 0 ∧ (rm_Creeps_seekLeast 11).frames + 1 ≤ rm_Creeps_leastTogether.frames ∧ 8 + (5 + 11) + (rm_Creeps_seekLeast 11).locals ≤ rm_Creeps_leastTogether.locals := by decide
set_option maxHeartbeats 4000000 in
set_option maxRecDepth 100000 in
theorem k_Creeps_leastTogether_b24 {p : Program} {l : Launch} {e : Env} {s : State} {m : MethodId} {args : Array Value} {below : List Frame} {meth : Method} {c : Code} {dC : Nat → ClassId} {dI : Nat → Nat → Nat} {cy : Nat → ClassId} {A : Nat → Prop} {o0 : Nat} {a0 : Nat → Nat} {o1 : Nat} {N : Nat} {y : Int32 × zSt × (Nat → Int32)} (C0 : zCx p s m args meth c cX1_leastTogether 2 (some .int) RX1 (dC, dI) cy) (s0 : zSt) (n1 : Nat) (f1 : Nat → Int32) (hA : ∀ q, s.heap.size ≤ q → A q) {H : Heap} {locs : List Loc} (hP : va_P (dC, dI) vwCl (wd_Creeps_leastTogether cy o0 a0 (zI s0) (zL s0) (zA s0 1) (zA s0 4) (zA s0 5) (zA s0 6) (zA s0 7) o1 n1 f1) H) (hD : va_D A (wd_Creeps_leastTogether cy o0 a0 (zI s0) (zL s0) (zA s0 1) (zA s0 4) (zA s0 5) (zA s0 6) (zA s0 7) o1 n1 f1)) (hS : va_S A s.heap H locs) (hf : Creeps_leastTogether_b24 N s0 n1 f1 = some y) (ls : Array Slot) (hl : lv_has ls 2 [(0, .ref o0)]) : W p l e rm_Creeps_leastTogether s m args below meth c H locs 0 0 (MQ below (zQi y.1 (dC, dI) cy (wd_Creeps_leastTogether cy o0 a0 (zI y.2.1) (zL y.2.1) (zA y.2.1 1) (zA y.2.1 4) (zA y.2.1 5) (zA y.2.1 6) (zA y.2.1 7) o1 n1 y.2.2) A) args s 0 0 A) (F0 m 24 ls []) := by
  obtain ⟨hx, hb, hr, hml, hown, hT, hk, hK⟩ := id C0
  refine lv_aload_n hx hb dX1_leastTogether_24 rfl (lv_at hl 0 rfl) ?_
  refine zget (v := .int (zI s0 8)) hx hb hown hT hK hP inX1 rfl smX1 0 rfl 8 (by decide) tb_392 rfl dX1_leastTogether_25 ?_
  refine lv_bipush (v := 16) hx hb dX1_leastTogether_28 (by decide) ?_
  refine lv_icmp_le (tgt := 37) hx hb dX1_leastTogether_30 (by decide) (fun hb_1 => ?_) (fun hb_1 => ?_)
  · have hf := zif_t hb_1 hf
    refine lv_aload_n hx hb dX1_leastTogether_37 rfl (lv_at hl 0 rfl) ?_
    refine zget (v := .int (zI s0 8)) hx hb hown hT hK hP inX1 rfl smX1 0 rfl 8 (by decide) tb_392 rfl dX1_leastTogether_38 ?_
    cases hf
    exact zewi hx hb hr hk hK hP hD hS dX1_leastTogether_41
  · have hf := zif_f hb_1 hf
    refine lv_iconst (v := (-1)) hx hb dX1_leastTogether_33 (by decide) ?_
    refine lv_goto (tgt := 41) hx hb dX1_leastTogether_34 (by decide) ?_
    cases hf
    exact zewi hx hb hr hk hK hP hD hS dX1_leastTogether_41
set_option maxHeartbeats 4000000 in
set_option maxRecDepth 100000 in
theorem k_Creeps_leastTogether_b0 {p : Program} {l : Launch} {e : Env} {s : State} {m : MethodId} {args : Array Value} {below : List Frame} {meth : Method} {c : Code} {dC : Nat → ClassId} {dI : Nat → Nat → Nat} {cy : Nat → ClassId} {A : Nat → Prop} {o0 : Nat} {a0 : Nat → Nat} {o1 : Nat} {N : Nat} {y : Int32 × zSt × (Nat → Int32)} (C0 : zCx p s m args meth c cX1_leastTogether 2 (some .int) RX1 (dC, dI) cy) (s0 : zSt) (n1 : Nat) (f1 : Nat → Int32) (hA : ∀ q, s.heap.size ≤ q → A q) {H : Heap} {locs : List Loc} (hP : va_P (dC, dI) vwCl (wd_Creeps_leastTogether cy o0 a0 (zI s0) (zL s0) (zA s0 1) (zA s0 4) (zA s0 5) (zA s0 6) (zA s0 7) o1 n1 f1) H) (hD : va_D A (wd_Creeps_leastTogether cy o0 a0 (zI s0) (zL s0) (zA s0 1) (zA s0 4) (zA s0 5) (zA s0 6) (zA s0 7) o1 n1 f1)) (hS : va_S A s.heap H locs) (hf : Creeps_leastTogether_b0 N s0 n1 f1 = some y) (ls : Array Slot) (hl : lv_has ls 2 [(0, .ref o0), (1, .ref o1)]) : W p l e rm_Creeps_leastTogether s m args below meth c H locs 0 0 (MQ below (zQi y.1 (dC, dI) cy (wd_Creeps_leastTogether cy o0 a0 (zI y.2.1) (zL y.2.1) (zA y.2.1 1) (zA y.2.1 4) (zA y.2.1 5) (zA y.2.1 6) (zA y.2.1 7) o1 n1 y.2.2) A) args s 0 0 A) (F0 m 0 ls []) := by
  obtain ⟨hx, hb, hr, hml, hown, hT, hk, hK⟩ := id C0
  refine lv_aload_n hx hb dX1_leastTogether_0 rfl (lv_at hl 0 rfl) ?_
  refine lv_bipush (v := 17) hx hb dX1_leastTogether_1 (by decide) ?_
  refine zput (fs' := fs_Creeps a0 (upd (zI s0) 8 17) (zL s0)) (ws' := (wd_Creeps_leastTogether cy o0 a0 (upd (zI s0) 8 17) (zL s0) (zA s0 1) (zA s0 4) (zA s0 5) (zA s0 6) (zA s0 7) o1 n1 f1)) hx hb hown hT hK hP hD hS inX1 rfl smX1 tyX1_ok nmX1 0 rfl 8 (by decide) tb_392 rfl rfl rfl (Nat.le_of_ble_eq_true rfl) rfl rfl dX1_leastTogether_3 (fun H locs hP hD hS => ?_)
  refine lv_aload_n hx hb dX1_leastTogether_6 rfl (lv_at hl 0 rfl) ?_
  obtain ⟨z1, hc2, hf⟩ := zbd_some hf
  refine zri (zV (As := []) hx hb hml hown hT hl.1 (c_Creeps_countNotTooMany o0 a0 (zpI s0 8 17) hc2) zY_Creeps_countNotTooMany tb_896 (zpR hK hP [0, 3] rfl 0 1 rfl rfl rfl) rm_ok_Creeps_leastTogether_Creeps_countNotTooMany rfl rfl (Nat.le_of_ble_eq_true rfl) dX1_leastTogether_7 ⟨Nat.zero_le _, Nat.zero_le _⟩) ?_
  refine lv_aload_n hx hb dX1_leastTogether_10 rfl (lv_at hl 0 rfl) ?_
  refine zget (v := .int (zI s0 2)) hx hb hown hT hK hP inX1 rfl smX1 0 rfl 2 (by decide) tb_386 rfl dX1_leastTogether_11 ?_
  refine lv_icmp_ne (tgt := 24) hx hb dX1_leastTogether_14 (by decide) (fun hb_3 => ?_) (fun hb_3 => ?_)
  · have hf := zif_f hb_3 hf
    exact k_Creeps_leastTogether_b24 C0 (zpI s0 8 17) n1 f1  hA hP hD hS hf _ (lv_sub hl [0] rfl)
  · have hf := zif_t hb_3 hf
    refine lv_aload_n hx hb dX1_leastTogether_17 rfl (lv_at hl 0 rfl) ?_
    refine lv_iconst (v := 0) hx hb dX1_leastTogether_18 (by decide) ?_
    refine lv_iconst (v := 0) hx hb dX1_leastTogether_19 (by decide) ?_
    refine lv_aload_n hx hb dX1_leastTogether_20 rfl (lv_at hl 1 rfl) ?_
    obtain ⟨z4, hc5, hf⟩ := zbd_some hf
    refine zwv (wr := []) (ws' := (wd_Creeps_leastTogether cy o0 a0 (zI z4.1) (zL z4.1) (zA z4.1 1) (zA z4.1 4) (zA z4.1 5) (zA z4.1 6) (zA z4.1 7) o1 n1 z4.2)) (zV (As := [.int 0, .int 0, .ref o1]) hx hb hml hown hT hl.1 (c_Creeps_seekLeast o0 a0 (zpI s0 8 17) o1 n1 f1 0 0 hc5) zY_Creeps_seekLeast tb_901 (zpRw hK hP hD [0, 1, 2, 3, 4, 5, 6] (by decide) rfl 0 1 rfl rfl rfl rfl) rm_ok_Creeps_leastTogether_Creeps_seekLeast rfl rfl (Nat.le_of_ble_eq_true rfl) dX1_leastTogether_21 ⟨Nat.zero_le _, Nat.zero_le _⟩) hP hD hS hA [0, 1, 2, 3, 4, 5, 6] [] [0, 1, 2, 3, 4, 5, 6] rfl rfl (by decide) (by decide) (by decide) rfl rfl (fun H locs hP hD hS => ?_)
    exact k_Creeps_leastTogether_b24 C0 z4.1 n1 z4.2  hA hP hD hS hf _ (lv_sub hl [0] rfl)
set_option maxHeartbeats 4000000 in
set_option maxRecDepth 100000 in
theorem c_Creeps_leastTogether {l : Launch} {dC : Nat → ClassId} {dI : Nat → Nat → Nat} {cy : Nat → ClassId} {sz : Nat} {N : Nat} (o0 : Nat) (a0 : Nat → Nat) (s0 : zSt) (o1 n1 : Nat) (f1 : Nat → Int32) {y : Int32 × zSt × (Nat → Int32)} (hf : Creeps_leastTogether N s0 n1 f1 = some y) : Met l yX1_leastTogether (.code yX1_leastTogether cX1_leastTogether 2 (some .int) :: zt) rm_Creeps_leastTogether (va_Pc [.ref o0, .ref o1] (zPre (dC, dI) cy (wd_Creeps_leastTogether cy o0 a0 (zI s0) (zL s0) (zA s0 1) (zA s0 4) (zA s0 5) (zA s0 6) (zA s0 7) o1 n1 f1) sz)) (zQi y.1 (dC, dI) cy (wd_Creeps_leastTogether cy o0 a0 (zI y.2.1) (zL y.2.1) (zA y.2.1 1) (zA y.2.1 4) (zA y.2.1 5) (zA y.2.1 6) (zA y.2.1 7) o1 n1 y.2.2) (va_A (wd_Creeps_leastTogether cy o0 a0 (zI s0) (zL s0) (zA s0 1) (zA s0 4) (zA s0 5) (zA s0 6) (zA s0 7) o1 n1 f1) sz)) 0 0 (va_A (wd_Creeps_leastTogether cy o0 a0 (zI s0) (zL s0) (zA s0 1) (zA s0 4) (zA s0 5) (zA s0 6) (zA s0 7) o1 n1 f1) sz) :=
  zentW (Qw := fun A => (zQi y.1 (dC, dI) cy (wd_Creeps_leastTogether cy o0 a0 (zI y.2.1) (zL y.2.1) (zA y.2.1 1) (zA y.2.1 4) (zA y.2.1 5) (zA y.2.1 6) (zA y.2.1 7) o1 n1 y.2.2) A)) (by decide +kernel) (Nat.le_of_ble_eq_true rfl) (fun p e s m below meth c A C0 hA hP hD hS ls hl => k_Creeps_leastTogether_b0 C0 s0 n1 f1 hA hP hD hS hf ls hl)
def wd_Creeps_seekFarthest (cy : Nat → ClassId) (o0 : Nat) (a0 : Nat → Nat) (g0 : Nat → Int32) (h0 : Nat → Int64) (x0_1 : Nat → Int32) (x0_4 : Nat → Int32) (x0_5 : Nat → Int32) (x0_7 : Nat → Int32) : va_W := [(o0, .inr (1, fs_Creeps a0 g0 h0)), (a0 1, .inl (cy 0, 8, .inl x0_1)), (a0 4, .inl (cy 0, 40, .inl x0_4)), (a0 5, .inl (cy 0, 40, .inl x0_5)), (a0 7, .inl (cy 0, 360, .inl x0_7))]
def rm_Creeps_seekFarthest (d : Nat) : Room := { frames := 3 + d, cells := 0, slots := 0, locals := 91 + d * 23 }
theorem rm_ok_Creeps_seekFarthest_Creeps_ring {d : Nat} : rm_Creeps_ring.cells = 0 ∧ rm_Creeps_ring.slots = 0 ∧ rm_Creeps_ring.frames + 1 ≤ (rm_Creeps_seekFarthest (d + 1)).frames ∧ 8 + (10 + 11) + rm_Creeps_ring.locals ≤ (rm_Creeps_seekFarthest (d + 1)).locals := ⟨rfl, rfl, by simp only [rm_Creeps_seekFarthest, rm_Creeps_ring]; omega, by simp only [rm_Creeps_seekFarthest, rm_Creeps_ring]; omega⟩
theorem rm_ok_Creeps_seekFarthest_Creeps_seekFarthest {d : Nat} : (rm_Creeps_seekFarthest d).cells = 0 ∧ (rm_Creeps_seekFarthest d).slots = 0 ∧ (rm_Creeps_seekFarthest d).frames + 1 ≤ (rm_Creeps_seekFarthest (d + 1)).frames ∧ 8 + (4 + 11) + (rm_Creeps_seekFarthest d).locals ≤ (rm_Creeps_seekFarthest (d + 1)).locals := ⟨rfl, rfl, by simp only [rm_Creeps_seekFarthest, rm_Creeps_seekFarthest]; omega, by simp only [rm_Creeps_seekFarthest, rm_Creeps_seekFarthest]; omega⟩
set_option maxHeartbeats 4000000 in
set_option maxRecDepth 100000 in
theorem k_Creeps_seekFarthest_b25 {p : Program} {l : Launch} {e : Env} {s : State} {m : MethodId} {args : Array Value} {below : List Frame} {meth : Method} {c : Code} {dC : Nat → ClassId} {dI : Nat → Nat → Nat} {cy : Nat → ClassId} {A : Nat → Prop} {o0 : Nat} {a0 : Nat → Nat} {N : Nat} {d : Nat} {kr : zSt → Int32 → Int32 → Option (zSt)} {kh25 : zSt → Int32 → Option (zSt)} {y : zSt} (C0 : zCx p s m args meth c cX1_seekFarthest 4 none RX1 (dC, dI) cy) (s0 : zSt) (v1 : Int32) (v2 : Int32) (v3 : Int32) (hkr : ∀ {sz : Nat} (o0 : Nat) (a0 : Nat → Nat) (s0 : zSt) (v1 : Int32) (v2 : Int32) {y : zSt}, kr s0 v1 v2 = some y → Met l yX1_seekFarthest (.code yX1_seekFarthest cX1_seekFarthest 4 none :: zt) (rm_Creeps_seekFarthest d) (va_Pc [.ref o0, .int v1, .int v2] (zPre (dC, dI) cy (wd_Creeps_seekFarthest cy o0 a0 (zI s0) (zL s0) (zA s0 1) (zA s0 4) (zA s0 5) (zA s0 7)) sz)) (zQv (dC, dI) cy (wd_Creeps_seekFarthest cy o0 a0 (zI y) (zL y) (zA y 1) (zA y 4) (zA y 5) (zA y 7)) (va_A (wd_Creeps_seekFarthest cy o0 a0 (zI s0) (zL s0) (zA s0 1) (zA s0 4) (zA s0 5) (zA s0 7)) sz)) 0 0 (va_A (wd_Creeps_seekFarthest cy o0 a0 (zI s0) (zL s0) (zA s0 1) (zA s0 4) (zA s0 5) (zA s0 7)) sz)) (hk25 : ∀ (s0 : zSt) (v3 : Int32) {H : Heap} {locs : List Loc} (_ : va_P (dC, dI) vwCl (wd_Creeps_seekFarthest cy o0 a0 (zI s0) (zL s0) (zA s0 1) (zA s0 4) (zA s0 5) (zA s0 7)) H) (_ : va_D A (wd_Creeps_seekFarthest cy o0 a0 (zI s0) (zL s0) (zA s0 1) (zA s0 4) (zA s0 5) (zA s0 7))) (_ : va_S A s.heap H locs) (_ : kh25 s0 v3 = some y) (ls : Array Slot) (_ : lv_has ls 4 [(0, .ref o0), (1, .int v1), (2, .int v2), (3, .int v3)]), W p l e (rm_Creeps_seekFarthest (d + 1)) s m args below meth c H locs 0 0 (MQ below (zQv (dC, dI) cy (wd_Creeps_seekFarthest cy o0 a0 (zI y) (zL y) (zA y 1) (zA y 4) (zA y 5) (zA y 7)) A) args s 0 0 A) (F0 m 25 ls [])) (hA : ∀ q, s.heap.size ≤ q → A q) {H : Heap} {locs : List Loc} (hP : va_P (dC, dI) vwCl (wd_Creeps_seekFarthest cy o0 a0 (zI s0) (zL s0) (zA s0 1) (zA s0 4) (zA s0 5) (zA s0 7)) H) (hD : va_D A (wd_Creeps_seekFarthest cy o0 a0 (zI s0) (zL s0) (zA s0 1) (zA s0 4) (zA s0 5) (zA s0 7))) (hS : va_S A s.heap H locs) (hf : Creeps_seekFarthest_b25 N kr kh25 s0 v1 v2 v3 = some y) (ls : Array Slot) (hl : lv_has ls 4 [(0, .ref o0), (1, .int v1), (2, .int v2), (3, .int v3)]) : W p l e (rm_Creeps_seekFarthest (d + 1)) s m args below meth c H locs 0 0 (MQ below (zQv (dC, dI) cy (wd_Creeps_seekFarthest cy o0 a0 (zI y) (zL y) (zA y 1) (zA y 4) (zA y 5) (zA y 7)) A) args s 0 0 A) (F0 m 25 ls []) := by
  obtain ⟨hx, hb, hr, hml, hown, hT, hk, hK⟩ := id C0
  refine lv_iload_n hx hb dX1_seekFarthest_25 rfl (lv_at hl 3 rfl) ?_
  refine lv_iconst (v := 2) hx hb dX1_seekFarthest_26 (by decide) ?_
  refine lv_icmp_gt (tgt := 50) hx hb dX1_seekFarthest_27 (by decide) (fun hb_1 => ?_) (fun hb_1 => ?_)
  · have hf := zif_t hb_1 hf
    cases hf
    exact zewv hx hb hr hk hK hP hD hS dX1_seekFarthest_50
  · have hf := zif_f hb_1 hf
    refine lv_aload_n hx hb dX1_seekFarthest_30 rfl (lv_at hl 0 rfl) ?_
    refine lv_iload_n hx hb dX1_seekFarthest_31 rfl (lv_at hl 1 rfl) ?_
    refine lv_iconst (v := 1) hx hb dX1_seekFarthest_32 (by decide) ?_
    refine lv_iadd hx hb dX1_seekFarthest_33 ?_
    refine lv_aload_n hx hb dX1_seekFarthest_34 rfl (lv_at hl 0 rfl) ?_
    refine lv_iload_n hx hb dX1_seekFarthest_35 rfl (lv_at hl 1 rfl) ?_
    refine lv_iload_n hx hb dX1_seekFarthest_36 rfl (lv_at hl 3 rfl) ?_
    refine lv_iload_n hx hb dX1_seekFarthest_37 rfl (lv_at hl 2 rfl) ?_
    obtain ⟨z2, hc3, hf⟩ := zbd_some hf
    refine zwi (wr := []) (ws' := (wd_Creeps_seekFarthest cy o0 a0 (zI z2.2) (zL z2.2) (zA z2.2 1) (zA z2.2 4) (zA z2.2 5) (zA z2.2 7))) (zV (As := [.int v1, .int v3, .int v2]) hx hb hml hown hT hl.1 (c_Creeps_ring o0 a0 s0 v1 v3 v2 hc3) zY_Creeps_ring tb_908 (zpRw hK hP hD [0, 1, 2, 3, 4] (by decide) rfl 0 1 rfl rfl rfl rfl) rm_ok_Creeps_seekFarthest_Creeps_ring rfl rfl (Nat.le_of_ble_eq_true rfl) dX1_seekFarthest_38 ⟨Nat.zero_le _, Nat.zero_le _⟩) hP hD hS hA [0, 1, 2, 3, 4] [] [0, 1, 2, 3, 4] rfl rfl (by decide) (by decide) (by decide) rfl rfl (fun H locs hP hD hS => ?_)
    obtain ⟨z4, hc5, hf⟩ := zbd_some hf
    refine zwv (wr := []) (ws' := (wd_Creeps_seekFarthest cy o0 a0 (zI z4) (zL z4) (zA z4 1) (zA z4 4) (zA z4 5) (zA z4 7))) (zV (As := [.int (v1 + 1), .int z2.1]) hx hb hml hown hT hl.1 (hkr o0 a0 z2.2 (v1 + 1) z2.1 hc5) zY_Creeps_seekFarthest tb_921 (zpRw hK hP hD [0, 1, 2, 3, 4] (by decide) rfl 0 1 rfl rfl rfl rfl) rm_ok_Creeps_seekFarthest_Creeps_seekFarthest rfl rfl (Nat.le_of_ble_eq_true rfl) dX1_seekFarthest_41 ⟨Nat.zero_le _, Nat.zero_le _⟩) hP hD hS hA [0, 1, 2, 3, 4] [] [0, 1, 2, 3, 4] rfl rfl (by decide) (by decide) (by decide) rfl rfl (fun H locs hP hD hS => ?_)
    refine lv_iinc (v := v3 + 1) (lv' := [(3, .int (v3 + 1)), (0, .ref o0), (1, .int v1), (2, .int v2)]) hx hb dX1_seekFarthest_44 hl (k := 3) rfl rfl (by decide) rfl (fun ls hl => ?_)
    refine lv_goto (tgt := 25) hx hb dX1_seekFarthest_47 (by decide) ?_
    exact hk25 z4 (v3 + 1) hP hD hS hf _ (lv_sub hl [1, 2, 3, 0] rfl)
set_option maxHeartbeats 4000000 in
set_option maxRecDepth 100000 in
theorem k_Creeps_seekFarthest_h25 {p : Program} {l : Launch} {e : Env} {s : State} {m : MethodId} {args : Array Value} {below : List Frame} {meth : Method} {c : Code} {dC : Nat → ClassId} {dI : Nat → Nat → Nat} {cy : Nat → ClassId} {A : Nat → Prop} {o0 : Nat} {a0 : Nat → Nat} {N : Nat} {d : Nat} {kr : zSt → Int32 → Int32 → Option (zSt)} {y : zSt} (C0 : zCx p s m args meth c cX1_seekFarthest 4 none RX1 (dC, dI) cy) (v1 : Int32) (v2 : Int32) (hkr : ∀ {sz : Nat} (o0 : Nat) (a0 : Nat → Nat) (s0 : zSt) (v1 : Int32) (v2 : Int32) {y : zSt}, kr s0 v1 v2 = some y → Met l yX1_seekFarthest (.code yX1_seekFarthest cX1_seekFarthest 4 none :: zt) (rm_Creeps_seekFarthest d) (va_Pc [.ref o0, .int v1, .int v2] (zPre (dC, dI) cy (wd_Creeps_seekFarthest cy o0 a0 (zI s0) (zL s0) (zA s0 1) (zA s0 4) (zA s0 5) (zA s0 7)) sz)) (zQv (dC, dI) cy (wd_Creeps_seekFarthest cy o0 a0 (zI y) (zL y) (zA y 1) (zA y 4) (zA y 5) (zA y 7)) (va_A (wd_Creeps_seekFarthest cy o0 a0 (zI s0) (zL s0) (zA s0 1) (zA s0 4) (zA s0 5) (zA s0 7)) sz)) 0 0 (va_A (wd_Creeps_seekFarthest cy o0 a0 (zI s0) (zL s0) (zA s0 1) (zA s0 4) (zA s0 5) (zA s0 7)) sz)) (hA : ∀ q, s.heap.size ≤ q → A q) : ∀ (n : Nat) (s0 : zSt) (v3 : Int32) {H : Heap} {locs : List Loc} (hP : va_P (dC, dI) vwCl (wd_Creeps_seekFarthest cy o0 a0 (zI s0) (zL s0) (zA s0 1) (zA s0 4) (zA s0 5) (zA s0 7)) H) (hD : va_D A (wd_Creeps_seekFarthest cy o0 a0 (zI s0) (zL s0) (zA s0 1) (zA s0 4) (zA s0 5) (zA s0 7))) (hS : va_S A s.heap H locs) (hf : Creeps_seekFarthest_h25 N kr v1 v2 n s0 v3 = some y) (ls : Array Slot) (hl : lv_has ls 4 [(0, .ref o0), (1, .int v1), (2, .int v2), (3, .int v3)]), W p l e (rm_Creeps_seekFarthest (d + 1)) s m args below meth c H locs 0 0 (MQ below (zQv (dC, dI) cy (wd_Creeps_seekFarthest cy o0 a0 (zI y) (zL y) (zA y 1) (zA y 4) (zA y 5) (zA y 7)) A) args s 0 0 A) (F0 m 25 ls []) := by
  intro n
  induction n with
  | zero => intro s0 v3 H locs hP hD hS hf; cases hf
  | succ n ih =>
    intro s0 v3 H locs hP hD hS hf ls hl
    have hf : Creeps_seekFarthest_b25 N kr (Creeps_seekFarthest_h25 N kr v1 v2 n) s0 v1 v2 v3 = some y := hf
    exact k_Creeps_seekFarthest_b25 C0 s0 v1 v2 v3 hkr (fun s0 v3 _ _ hP hD hS hf ls hl => ih s0 v3 hP hD hS hf ls hl) hA hP hD hS hf ls hl
set_option maxHeartbeats 4000000 in
set_option maxRecDepth 100000 in
theorem k_Creeps_seekFarthest_b0 {p : Program} {l : Launch} {e : Env} {s : State} {m : MethodId} {args : Array Value} {below : List Frame} {meth : Method} {c : Code} {dC : Nat → ClassId} {dI : Nat → Nat → Nat} {cy : Nat → ClassId} {A : Nat → Prop} {o0 : Nat} {a0 : Nat → Nat} {N : Nat} {d : Nat} {kr : zSt → Int32 → Int32 → Option (zSt)} {y : zSt} (C0 : zCx p s m args meth c cX1_seekFarthest 4 none RX1 (dC, dI) cy) (s0 : zSt) (v1 : Int32) (v2 : Int32) (hkr : ∀ {sz : Nat} (o0 : Nat) (a0 : Nat → Nat) (s0 : zSt) (v1 : Int32) (v2 : Int32) {y : zSt}, kr s0 v1 v2 = some y → Met l yX1_seekFarthest (.code yX1_seekFarthest cX1_seekFarthest 4 none :: zt) (rm_Creeps_seekFarthest d) (va_Pc [.ref o0, .int v1, .int v2] (zPre (dC, dI) cy (wd_Creeps_seekFarthest cy o0 a0 (zI s0) (zL s0) (zA s0 1) (zA s0 4) (zA s0 5) (zA s0 7)) sz)) (zQv (dC, dI) cy (wd_Creeps_seekFarthest cy o0 a0 (zI y) (zL y) (zA y 1) (zA y 4) (zA y 5) (zA y 7)) (va_A (wd_Creeps_seekFarthest cy o0 a0 (zI s0) (zL s0) (zA s0 1) (zA s0 4) (zA s0 5) (zA s0 7)) sz)) 0 0 (va_A (wd_Creeps_seekFarthest cy o0 a0 (zI s0) (zL s0) (zA s0 1) (zA s0 4) (zA s0 5) (zA s0 7)) sz)) (hA : ∀ q, s.heap.size ≤ q → A q) {H : Heap} {locs : List Loc} (hP : va_P (dC, dI) vwCl (wd_Creeps_seekFarthest cy o0 a0 (zI s0) (zL s0) (zA s0 1) (zA s0 4) (zA s0 5) (zA s0 7)) H) (hD : va_D A (wd_Creeps_seekFarthest cy o0 a0 (zI s0) (zL s0) (zA s0 1) (zA s0 4) (zA s0 5) (zA s0 7))) (hS : va_S A s.heap H locs) (hf : Creeps_seekFarthest_b0 N kr s0 v1 v2 = some y) (ls : Array Slot) (hl : lv_has ls 4 [(0, .ref o0), (1, .int v1), (2, .int v2)]) : W p l e (rm_Creeps_seekFarthest (d + 1)) s m args below meth c H locs 0 0 (MQ below (zQv (dC, dI) cy (wd_Creeps_seekFarthest cy o0 a0 (zI y) (zL y) (zA y 1) (zA y 4) (zA y 5) (zA y 7)) A) args s 0 0 A) (F0 m 0 ls []) := by
  obtain ⟨hx, hb, hr, hml, hown, hT, hk, hK⟩ := id C0
  refine lv_iload_n hx hb dX1_seekFarthest_0 rfl (lv_at hl 2 rfl) ?_
  refine lv_aload_n hx hb dX1_seekFarthest_1 rfl (lv_at hl 0 rfl) ?_
  refine zget (v := .int (zI s0 9)) hx hb hown hT hK hP inX1 rfl smX1 0 rfl 9 (by decide) tb_393 rfl dX1_seekFarthest_2 ?_
  refine lv_icmp_gt (tgt := 9) hx hb dX1_seekFarthest_5 (by decide) (fun hb_1 => ?_) (fun hb_1 => ?_)
  · have hf := zif_t hb_1 hf
    refine lv_iload_n hx hb dX1_seekFarthest_9 rfl (lv_at hl 1 rfl) ?_
    refine lv_aload_n hx hb dX1_seekFarthest_10 rfl (lv_at hl 0 rfl) ?_
    refine zget (v := .int (zI s0 0)) hx hb hown hT hK hP inX1 rfl smX1 0 rfl 0 (by decide) tb_384 rfl dX1_seekFarthest_11 ?_
    refine lv_icmp_lt (tgt := 23) hx hb dX1_seekFarthest_14 (by decide) (fun hb_2 => ?_) (fun hb_2 => ?_)
    · have hf := zif_t hb_2 hf
      refine lv_iconst (v := 0) hx hb dX1_seekFarthest_23 (by decide) ?_
      refine lv_istore_n (lv' := [(3, .int 0), (0, .ref o0), (1, .int v1), (2, .int v2)]) hx hb dX1_seekFarthest_24 rfl hl (by decide) rfl (fun ls hl => ?_)
      exact k_Creeps_seekFarthest_h25 C0 v1 v2 hkr hA N s0 0 hP hD hS hf _ (lv_sub hl [1, 2, 3, 0] rfl)
    · have hf := zif_f hb_2 hf
      refine lv_aload_n hx hb dX1_seekFarthest_17 rfl (lv_at hl 0 rfl) ?_
      refine lv_iload_n hx hb dX1_seekFarthest_18 rfl (lv_at hl 2 rfl) ?_
      refine zput (fs' := fs_Creeps a0 (upd (zI s0) 9 v2) (zL s0)) (ws' := (wd_Creeps_seekFarthest cy o0 a0 (upd (zI s0) 9 v2) (zL s0) (zA s0 1) (zA s0 4) (zA s0 5) (zA s0 7))) hx hb hown hT hK hP hD hS inX1 rfl smX1 tyX1_ok nmX1 0 rfl 9 (by decide) tb_393 rfl rfl rfl (Nat.le_of_ble_eq_true rfl) rfl rfl dX1_seekFarthest_19 (fun H locs hP hD hS => ?_)
      cases hf
      exact zewv hx hb hr hk hK hP hD hS dX1_seekFarthest_22
  · have hf := zif_f hb_1 hf
    cases hf
    exact zewv hx hb hr hk hK hP hD hS dX1_seekFarthest_8
set_option maxHeartbeats 4000000 in
set_option maxRecDepth 100000 in
theorem c_Creeps_seekFarthest {l : Launch} {dC : Nat → ClassId} {dI : Nat → Nat → Nat} {cy : Nat → ClassId} {N : Nat} : ∀ {d : Nat} {sz : Nat} (o0 : Nat) (a0 : Nat → Nat) (s0 : zSt) (v1 : Int32) (v2 : Int32) {y : zSt} (hf : Creeps_seekFarthest N d s0 v1 v2 = some y), Met l yX1_seekFarthest (.code yX1_seekFarthest cX1_seekFarthest 4 none :: zt) (rm_Creeps_seekFarthest d) (va_Pc [.ref o0, .int v1, .int v2] (zPre (dC, dI) cy (wd_Creeps_seekFarthest cy o0 a0 (zI s0) (zL s0) (zA s0 1) (zA s0 4) (zA s0 5) (zA s0 7)) sz)) (zQv (dC, dI) cy (wd_Creeps_seekFarthest cy o0 a0 (zI y) (zL y) (zA y 1) (zA y 4) (zA y 5) (zA y 7)) (va_A (wd_Creeps_seekFarthest cy o0 a0 (zI s0) (zL s0) (zA s0 1) (zA s0 4) (zA s0 5) (zA s0 7)) sz)) 0 0 (va_A (wd_Creeps_seekFarthest cy o0 a0 (zI s0) (zL s0) (zA s0 1) (zA s0 4) (zA s0 5) (zA s0 7)) sz) := by
  intro d
  induction d with
  | zero => intro sz o0 a0 s0 v1 v2 y hf; cases hf
  | succ d ih =>
    intro sz o0 a0 s0 v1 v2 y hf
    exact zentW (Qw := fun A => (zQv (dC, dI) cy (wd_Creeps_seekFarthest cy o0 a0 (zI y) (zL y) (zA y 1) (zA y 4) (zA y 5) (zA y 7)) A)) (by decide +kernel) (Nat.le_of_ble_eq_true rfl) (fun p e s m below meth c A C0 hA hP hD hS ls hl => k_Creeps_seekFarthest_b0 C0 s0 v1 v2 (@fun _ o0 a0 s0 v1 v2 _ h => ih o0 a0 s0 v1 v2 h) hA hP hD hS hf ls hl)
def wd_Creeps_firstThatCant (cy : Nat → ClassId) (o0 : Nat) (a0 : Nat → Nat) (g0 : Nat → Int32) (h0 : Nat → Int64) (x0_1 : Nat → Int32) (x0_3 : Nat → Int32) (x0_4 : Nat → Int32) (x0_5 : Nat → Int32) (x0_7 : Nat → Int32) : va_W := [(o0, .inr (1, fs_Creeps a0 g0 h0)), (a0 1, .inl (cy 0, 8, .inl x0_1)), (a0 3, .inl (cy 0, 40, .inl x0_3)), (a0 4, .inl (cy 0, 40, .inl x0_4)), (a0 5, .inl (cy 0, 40, .inl x0_5)), (a0 7, .inl (cy 0, 360, .inl x0_7))]
def rm_Creeps_firstThatCant : Room := { frames := 15, cells := 0, slots := 0, locals := 367 }
theorem rm_ok_Creeps_firstThatCant_CH_within : rm_CH_within.cells = 0 ∧ rm_CH_within.slots = 0 ∧ rm_CH_within.frames + 1 ≤ rm_Creeps_firstThatCant.frames ∧ 8 + (3 + 11) + rm_CH_within.locals ≤ rm_Creeps_firstThatCant.locals := by decide
theorem rm_ok_Creeps_firstThatCant_Creeps_countNotTooMany : rm_Creeps_countNotTooMany.cells = 0 ∧ rm_Creeps_countNotTooMany.slots = 0 ∧ rm_Creeps_countNotTooMany.frames + 1 ≤ rm_Creeps_firstThatCant.frames ∧ 8 + (2 + 11) + rm_Creeps_countNotTooMany.locals ≤ rm_Creeps_firstThatCant.locals := by decide
theorem rm_ok_Creeps_firstThatCant_Creeps_seekFarthest : (rm_Creeps_seekFarthest 11).cells = 0 ∧ (rm_Creeps_seekFarthest 11).slots = 0 ∧ (rm_Creeps_seekFarthest 11).frames + 1 ≤ rm_Creeps_firstThatCant.frames ∧ 8 + (4 + 11) + (rm_Creeps_seekFarthest 11).locals ≤ rm_Creeps_firstThatCant.locals := by decide
set_option maxHeartbeats 4000000 in
set_option maxRecDepth 100000 in
theorem k_Creeps_firstThatCant_b0 {p : Program} {l : Launch} {e : Env} {s : State} {m : MethodId} {args : Array Value} {below : List Frame} {meth : Method} {c : Code} {dC : Nat → ClassId} {dI : Nat → Nat → Nat} {cy : Nat → ClassId} {A : Nat → Prop} {o0 : Nat} {a0 : Nat → Nat} {N : Nat} {y : Int32 × zSt} (C0 : zCx p s m args meth c cX1_firstThatCant 1 (some .int) RX1 (dC, dI) cy) (s0 : zSt) (hA : ∀ q, s.heap.size ≤ q → A q) {H : Heap} {locs : List Loc} (hP : va_P (dC, dI) vwCl (wd_Creeps_firstThatCant cy o0 a0 (zI s0) (zL s0) (zA s0 1) (zA s0 3) (zA s0 4) (zA s0 5) (zA s0 7)) H) (hD : va_D A (wd_Creeps_firstThatCant cy o0 a0 (zI s0) (zL s0) (zA s0 1) (zA s0 3) (zA s0 4) (zA s0 5) (zA s0 7))) (hS : va_S A s.heap H locs) (hf : Creeps_firstThatCant_b0 N s0 = some y) (ls : Array Slot) (hl : lv_has ls 1 [(0, .ref o0)]) : W p l e rm_Creeps_firstThatCant s m args below meth c H locs 0 0 (MQ below (zQi y.1 (dC, dI) cy (wd_Creeps_firstThatCant cy o0 a0 (zI y.2) (zL y.2) (zA y.2 1) (zA y.2 3) (zA y.2 4) (zA y.2 5) (zA y.2 7)) A) args s 0 0 A) (F0 m 0 ls []) := by
  obtain ⟨hx, hb, hr, hml, hown, hT, hk, hK⟩ := id C0
  refine lv_aload_n hx hb dX1_firstThatCant_0 rfl (lv_at hl 0 rfl) ?_
  refine lv_iconst (v := (-1)) hx hb dX1_firstThatCant_1 (by decide) ?_
  refine zput (fs' := fs_Creeps a0 (upd (zI s0) 9 (-1)) (zL s0)) (ws' := (wd_Creeps_firstThatCant cy o0 a0 (upd (zI s0) 9 (-1)) (zL s0) (zA s0 1) (zA s0 3) (zA s0 4) (zA s0 5) (zA s0 7))) hx hb hown hT hK hP hD hS inX1 rfl smX1 tyX1_ok nmX1 0 rfl 9 (by decide) tb_393 rfl rfl rfl (Nat.le_of_ble_eq_true rfl) rfl rfl dX1_firstThatCant_2 (fun H locs hP hD hS => ?_)
  refine lv_aload_n hx hb dX1_firstThatCant_5 rfl (lv_at hl 0 rfl) ?_
  refine lv_iconst (v := 0) hx hb dX1_firstThatCant_6 (by decide) ?_
  refine lv_aload_n hx hb dX1_firstThatCant_7 rfl (lv_at hl 0 rfl) ?_
  obtain ⟨z1, hc2, hf⟩ := zbd_some hf
  refine zri (zV (As := []) hx hb hml hown hT hl.1 (c_Creeps_countNotTooMany o0 a0 (zpI s0 9 (-1)) hc2) zY_Creeps_countNotTooMany tb_896 (zpR hK hP [0, 4] rfl 0 1 rfl rfl rfl) rm_ok_Creeps_firstThatCant_Creeps_countNotTooMany rfl rfl (Nat.le_of_ble_eq_true rfl) dX1_firstThatCant_8 ⟨Nat.zero_le _, Nat.zero_le _⟩) ?_
  obtain ⟨z3, hc4, hf⟩ := zbd_some hf
  refine zwv (wr := [(a0 3, .inl (cy 0, 40, .inl (zA s0 3)))]) (ws' := (wd_Creeps_firstThatCant cy o0 a0 (zI z3) (zL z3) (zA z3 1) (zA s0 3) (zA z3 4) (zA z3 5) (zA z3 7))) (zV (As := [.int 0, .int z1]) hx hb hml hown hT hl.1 (c_Creeps_seekFarthest o0 a0 (zpI s0 9 (-1)) 0 z1 hc4) zY_Creeps_seekFarthest tb_921 (zpRw hK hP hD [0, 1, 3, 4, 5] (by decide) rfl 0 1 rfl rfl rfl rfl) rm_ok_Creeps_firstThatCant_Creeps_seekFarthest rfl rfl (Nat.le_of_ble_eq_true rfl) dX1_firstThatCant_11 ⟨Nat.zero_le _, Nat.zero_le _⟩) hP hD hS hA [0, 1, 3, 4, 5] [2] [1, 2, 0, 3, 4, 5] rfl rfl (by decide) (by decide) (by decide) rfl rfl (fun H locs hP hD hS => ?_)
  refine lv_aload_n hx hb dX1_firstThatCant_14 rfl (lv_at hl 0 rfl) ?_
  refine zget (v := .int (zI z3 9)) hx hb hown hT hK hP inX1 rfl smX1 0 rfl 9 (by decide) tb_393 rfl dX1_firstThatCant_15 ?_
  refine lv_iconst (v := 0) hx hb dX1_firstThatCant_18 (by decide) ?_
  refine lv_aload_n hx hb dX1_firstThatCant_19 rfl (lv_at hl 0 rfl) ?_
  refine zget (v := .int (zI z3 2)) hx hb hown hT hK hP inX1 rfl smX1 0 rfl 2 (by decide) tb_386 rfl dX1_firstThatCant_20 ?_
  refine lv_iconst (v := 1) hx hb dX1_firstThatCant_23 (by decide) ?_
  refine lv_isub hx hb dX1_firstThatCant_24 ?_
  obtain ⟨z5, hc6, hf⟩ := zbd_some hf
  refine zri (zSN (As := [.int (zI z3 9), .int 0, .int ((zI z3 2) - 1)]) hx hb hml hown hT hl.1 (c_CH_within (zI z3 9) 0 ((zI z3 2) - 1) hc6) zY_CH_within hK nl_9 (zpS hK hP [] rfl) rm_ok_Creeps_firstThatCant_CH_within rfl rfl (Nat.le_of_ble_eq_true rfl) dX1_firstThatCant_25 ⟨Nat.zero_le _, Nat.zero_le _⟩) ?_
  refine lv_if_eq (tgt := 43) hx hb dX1_firstThatCant_28 (by decide) (fun hb_7 => ?_) (fun hb_7 => ?_)
  · have hf := zif_t hb_7 hf
    refine lv_iconst (v := (-1)) hx hb dX1_firstThatCant_43 (by decide) ?_
    cases hf
    exact zewi hx hb hr hk hK hP hD hS dX1_firstThatCant_44
  · have hf := zif_f hb_7 hf
    refine lv_aload_n hx hb dX1_firstThatCant_31 rfl (lv_at hl 0 rfl) ?_
    refine zget (v := .ref (a0 3)) hx hb hown hT hK hP inX1 rfl smX1 0 rfl 3 (by decide) tb_387 rfl dX1_firstThatCant_32 ?_
    refine lv_aload_n hx hb dX1_firstThatCant_35 rfl (lv_at hl 0 rfl) ?_
    refine zget (v := .int (zI z3 9)) hx hb hown hT hK hP inX1 rfl smX1 0 rfl 9 (by decide) tb_393 rfl dX1_firstThatCant_36 ?_
    obtain ⟨hi8, hf⟩ := zck_some hf
    refine va_iald hx hb hK.1 hP 2 0 rfl rfl hi8 dX1_firstThatCant_39 ?_
    refine lv_goto (tgt := 44) hx hb dX1_firstThatCant_40 (by decide) ?_
    cases hf
    exact zewi hx hb hr hk hK hP hD hS dX1_firstThatCant_44
set_option maxHeartbeats 4000000 in
set_option maxRecDepth 100000 in
theorem c_Creeps_firstThatCant {l : Launch} {dC : Nat → ClassId} {dI : Nat → Nat → Nat} {cy : Nat → ClassId} {sz : Nat} {N : Nat} (o0 : Nat) (a0 : Nat → Nat) (s0 : zSt) {y : Int32 × zSt} (hf : Creeps_firstThatCant N s0 = some y) : Met l yX1_firstThatCant (.code yX1_firstThatCant cX1_firstThatCant 1 (some .int) :: zt) rm_Creeps_firstThatCant (va_Pc [.ref o0] (zPre (dC, dI) cy (wd_Creeps_firstThatCant cy o0 a0 (zI s0) (zL s0) (zA s0 1) (zA s0 3) (zA s0 4) (zA s0 5) (zA s0 7)) sz)) (zQi y.1 (dC, dI) cy (wd_Creeps_firstThatCant cy o0 a0 (zI y.2) (zL y.2) (zA y.2 1) (zA y.2 3) (zA y.2 4) (zA y.2 5) (zA y.2 7)) (va_A (wd_Creeps_firstThatCant cy o0 a0 (zI s0) (zL s0) (zA s0 1) (zA s0 3) (zA s0 4) (zA s0 5) (zA s0 7)) sz)) 0 0 (va_A (wd_Creeps_firstThatCant cy o0 a0 (zI s0) (zL s0) (zA s0 1) (zA s0 3) (zA s0 4) (zA s0 5) (zA s0 7)) sz) :=
  zentW (Qw := fun A => (zQi y.1 (dC, dI) cy (wd_Creeps_firstThatCant cy o0 a0 (zI y.2) (zL y.2) (zA y.2 1) (zA y.2 3) (zA y.2 4) (zA y.2 5) (zA y.2 7)) A)) (by decide +kernel) (Nat.le_of_ble_eq_true rfl) (fun p e s m below meth c A C0 hA hP hD hS ls hl => k_Creeps_firstThatCant_b0 C0 s0 hA hP hD hS hf ls hl)
def wd_Math_abs (cy : Nat → ClassId) : va_W := []
def rm_Math_abs : Room := { frames := 1, cells := 0, slots := 0, locals := 40 }
set_option maxHeartbeats 4000000 in
set_option maxRecDepth 100000 in
theorem k_Math_abs_b0 {p : Program} {l : Launch} {e : Env} {s : State} {m : MethodId} {args : Array Value} {below : List Frame} {meth : Method} {c : Code} {dC : Nat → ClassId} {dI : Nat → Nat → Nat} {cy : Nat → ClassId} {N : Nat} {y : Int32} (C0 : zCx p s m args meth c cJ9_abs_0f7a4 1 (some .int) RJ9 (dC, dI) cy) (v0 : Int32) (hP : va_P (dC, dI) vwCl (wd_Math_abs cy) s.heap) (hf : Math_abs_b0 N v0 = some y) (ls : Array Slot) (hl : lv_has ls 1 [(0, .int v0)]) : W p l e rm_Math_abs s m args below meth c s.heap [] 0 0 (MQ below (zSi y) args s 0 0 (fun _ => False)) (F0 m 0 ls []) := by
  obtain ⟨hx, hb, hr, hml, hown, hT, hk, hK⟩ := id C0
  refine lv_iload_n hx hb dJ9_abs_0f7a4_0 rfl (lv_at hl 0 rfl) ?_
  refine lv_if_ge (tgt := 9) hx hb dJ9_abs_0f7a4_1 (by decide) (fun hb_1 => ?_) (fun hb_1 => ?_)
  · have hf := zif_t hb_1 hf
    refine lv_iload_n hx hb dJ9_abs_0f7a4_9 rfl (lv_at hl 0 rfl) ?_
    cases hf
    exact zeri hx hb hr hk dJ9_abs_0f7a4_10
  · have hf := zif_f hb_1 hf
    refine lv_iload_n hx hb dJ9_abs_0f7a4_4 rfl (lv_at hl 0 rfl) ?_
    refine lv_ineg hx hb dJ9_abs_0f7a4_5 ?_
    refine lv_goto (tgt := 10) hx hb dJ9_abs_0f7a4_6 (by decide) ?_
    cases hf
    exact zeri hx hb hr hk dJ9_abs_0f7a4_10
set_option maxHeartbeats 4000000 in
set_option maxRecDepth 100000 in
theorem c_Math_abs {l : Launch} {dC : Nat → ClassId} {dI : Nat → Nat → Nat} {cy : Nat → ClassId} {N : Nat} (v0 : Int32) {y : Int32} (hf : Math_abs N v0 = some y) : Met l yJ9_abs_0f7a4 (.code yJ9_abs_0f7a4 cJ9_abs_0f7a4 1 (some .int) :: zt) rm_Math_abs (va_Pc [.int v0] (zRd (dC, dI) cy (wd_Math_abs cy))) (zSi y) 0 0 (fun _ => False) :=
  zentR (by decide +kernel) (Nat.le_of_ble_eq_true rfl) (fun p e s m below meth c C0 hP ls hl => k_Math_abs_b0 C0 v0 hP hf ls hl)
def wd_Dealer_hasLoud (cy : Nat → ClassId) (o0 : Nat) (a0 : Nat → Nat) (g0 : Nat → Int32) (h0 : Nat → Int64) (x0_2 : Nat → Int32) (o1 n1 : Nat) (f1 : Nat → Int32) : va_W := [(o0, .inr (2, fs_Dealer a0 g0 h0)), (a0 2, .inl (cy 0, 8, .inl x0_2)), (o1, .inl (cy 0, n1, .inl f1))]
def rm_Dealer_hasLoud : Room := { frames := 1, cells := 0, slots := 0, locals := 40 }
set_option maxHeartbeats 4000000 in
set_option maxRecDepth 100000 in
theorem k_Dealer_hasLoud_b31 {p : Program} {l : Launch} {e : Env} {s : State} {m : MethodId} {args : Array Value} {below : List Frame} {meth : Method} {c : Code} {dC : Nat → ClassId} {dI : Nat → Nat → Nat} {cy : Nat → ClassId} {o0 : Nat} {a0 : Nat → Nat} {o1 : Nat} {N : Nat} {kh3 : Int32 → Option (Int32)} {y : Int32} (C0 : zCx p s m args meth c cX2_hasLoud 6 (some .boolean) RX2 (dC, dI) cy) (s0 : zSt) (n1 : Nat) (f1 : Nat → Int32) (v1 : Int32) (v2 : Int32) (v3 : Int32) (v5 : Int32) (hk3 : ∀ (v5 : Int32) (_ : kh3 v5 = some y) (ls : Array Slot) (_ : lv_has ls 6 [(0, .ref o0), (1, .int v1), (2, .int v2), (3, .int v3), (4, .ref o1), (5, .int v5)]), W p l e rm_Dealer_hasLoud s m args below meth c s.heap [] 0 0 (MQ below (zSi y) args s 0 0 (fun _ => False)) (F0 m 3 ls [])) (hP : va_P (dC, dI) vwCl (wd_Dealer_hasLoud cy o0 a0 (zI s0) (zL s0) (zA s0 2) o1 n1 f1) s.heap) (hf : Dealer_hasLoud_b31 N kh3 s0 n1 f1 v1 v2 v3 v5 = some y) (ls : Array Slot) (hl : lv_has ls 6 [(0, .ref o0), (1, .int v1), (2, .int v2), (3, .int v3), (4, .ref o1), (5, .int v5)]) : W p l e rm_Dealer_hasLoud s m args below meth c s.heap [] 0 0 (MQ below (zSi y) args s 0 0 (fun _ => False)) (F0 m 31 ls []) := by
  obtain ⟨hx, hb, hr, hml, hown, hT, hk, hK⟩ := id C0
  refine lv_iinc (v := v5 + 1) (lv' := [(5, .int (v5 + 1)), (0, .ref o0), (1, .int v1), (2, .int v2), (3, .int v3), (4, .ref o1)]) hx hb dX2_hasLoud_31 hl (k := 5) rfl rfl (by decide) rfl (fun ls hl => ?_)
  refine lv_goto (tgt := 3) hx hb dX2_hasLoud_34 (by decide) ?_
  exact hk3 (v5 + 1) hf _ (lv_sub hl [1, 2, 3, 4, 5, 0] rfl)
set_option maxHeartbeats 4000000 in
set_option maxRecDepth 100000 in
theorem k_Dealer_hasLoud_b3 {p : Program} {l : Launch} {e : Env} {s : State} {m : MethodId} {args : Array Value} {below : List Frame} {meth : Method} {c : Code} {dC : Nat → ClassId} {dI : Nat → Nat → Nat} {cy : Nat → ClassId} {o0 : Nat} {a0 : Nat → Nat} {o1 : Nat} {N : Nat} {kh3 : Int32 → Option (Int32)} {y : Int32} (C0 : zCx p s m args meth c cX2_hasLoud 6 (some .boolean) RX2 (dC, dI) cy) (s0 : zSt) (n1 : Nat) (f1 : Nat → Int32) (v1 : Int32) (v2 : Int32) (v3 : Int32) (v5 : Int32) (hk3 : ∀ (v5 : Int32) (_ : kh3 v5 = some y) (ls : Array Slot) (_ : lv_has ls 6 [(0, .ref o0), (1, .int v1), (2, .int v2), (3, .int v3), (4, .ref o1), (5, .int v5)]), W p l e rm_Dealer_hasLoud s m args below meth c s.heap [] 0 0 (MQ below (zSi y) args s 0 0 (fun _ => False)) (F0 m 3 ls [])) (hP : va_P (dC, dI) vwCl (wd_Dealer_hasLoud cy o0 a0 (zI s0) (zL s0) (zA s0 2) o1 n1 f1) s.heap) (hf : Dealer_hasLoud_b3 N kh3 s0 n1 f1 v1 v2 v3 v5 = some y) (ls : Array Slot) (hl : lv_has ls 6 [(0, .ref o0), (1, .int v1), (2, .int v2), (3, .int v3), (4, .ref o1), (5, .int v5)]) : W p l e rm_Dealer_hasLoud s m args below meth c s.heap [] 0 0 (MQ below (zSi y) args s 0 0 (fun _ => False)) (F0 m 3 ls []) := by
  obtain ⟨hx, hb, hr, hml, hown, hT, hk, hK⟩ := id C0
  refine lv_iload hx hb dX2_hasLoud_3 (lv_at hl 5 rfl) ?_
  refine lv_iload_n hx hb dX2_hasLoud_5 rfl (lv_at hl 2 rfl) ?_
  refine lv_icmp_ge (tgt := 37) hx hb dX2_hasLoud_6 (by decide) (fun hb_1 => ?_) (fun hb_1 => ?_)
  · have hf := zif_t hb_1 hf
    refine lv_iconst (v := 0) hx hb dX2_hasLoud_37 (by decide) ?_
    cases hf
    exact zerz hx hb hr hk (Or.inl rfl) dX2_hasLoud_38
  · have hf := zif_f hb_1 hf
    refine lv_aload hx hb dX2_hasLoud_9 (lv_at hl 4 rfl) ?_
    refine lv_iload hx hb dX2_hasLoud_11 (lv_at hl 5 rfl) ?_
    obtain ⟨hi2, hf⟩ := zck_some hf
    refine va_iald hx hb hK.1 hP 2 0 rfl rfl hi2 dX2_hasLoud_13 ?_
    refine lv_iload_n hx hb dX2_hasLoud_14 rfl (lv_at hl 3 rfl) ?_
    refine lv_icmp_ne (tgt := 31) hx hb dX2_hasLoud_15 (by decide) (fun hb_3 => ?_) (fun hb_3 => ?_)
    · have hf := zif_f hb_3 hf
      exact k_Dealer_hasLoud_b31 C0 s0 n1 f1 v1 v2 v3 v5 hk3 hP hf _ (lv_sub hl [0, 1, 2, 3, 4, 5] rfl)
    · have hf := zif_t hb_3 hf
      refine lv_aload_n hx hb dX2_hasLoud_18 rfl (lv_at hl 0 rfl) ?_
      refine zget (v := .ref (a0 2)) hx hb hown hT hK hP inX2 rfl smX2 0 rfl 2 (by decide) tb_423 rfl dX2_hasLoud_19 ?_
      refine lv_iload hx hb dX2_hasLoud_22 (lv_at hl 5 rfl) ?_
      obtain ⟨hi4, hf⟩ := zck_some hf
      refine va_iald hx hb hK.1 hP 1 0 rfl rfl hi4 dX2_hasLoud_24 ?_
      refine lv_iload_n hx hb dX2_hasLoud_25 rfl (lv_at hl 1 rfl) ?_
      refine lv_icmp_ne (tgt := 31) hx hb dX2_hasLoud_26 (by decide) (fun hb_5 => ?_) (fun hb_5 => ?_)
      · have hf := zif_f hb_5 hf
        exact k_Dealer_hasLoud_b31 C0 s0 n1 f1 v1 v2 v3 v5 hk3 hP hf _ (lv_sub hl [0, 1, 2, 3, 4, 5] rfl)
      · have hf := zif_t hb_5 hf
        refine lv_iconst (v := 1) hx hb dX2_hasLoud_29 (by decide) ?_
        cases hf
        exact zerz hx hb hr hk (Or.inr rfl) dX2_hasLoud_30
set_option maxHeartbeats 4000000 in
set_option maxRecDepth 100000 in
theorem k_Dealer_hasLoud_h3 {p : Program} {l : Launch} {e : Env} {s : State} {m : MethodId} {args : Array Value} {below : List Frame} {meth : Method} {c : Code} {dC : Nat → ClassId} {dI : Nat → Nat → Nat} {cy : Nat → ClassId} {o0 : Nat} {a0 : Nat → Nat} {o1 : Nat} {N : Nat} {y : Int32} (C0 : zCx p s m args meth c cX2_hasLoud 6 (some .boolean) RX2 (dC, dI) cy) (s0 : zSt) (n1 : Nat) (f1 : (Nat → Int32)) (v1 : Int32) (v2 : Int32) (v3 : Int32) (hP : va_P (dC, dI) vwCl (wd_Dealer_hasLoud cy o0 a0 (zI s0) (zL s0) (zA s0 2) o1 n1 f1) s.heap) : ∀ (n : Nat) (v5 : Int32) (hf : Dealer_hasLoud_h3 N s0 n1 f1 v1 v2 v3 n v5 = some y) (ls : Array Slot) (hl : lv_has ls 6 [(0, .ref o0), (1, .int v1), (2, .int v2), (3, .int v3), (4, .ref o1), (5, .int v5)]), W p l e rm_Dealer_hasLoud s m args below meth c s.heap [] 0 0 (MQ below (zSi y) args s 0 0 (fun _ => False)) (F0 m 3 ls []) := by
  intro n
  induction n with
  | zero => intro v5 hf; cases hf
  | succ n ih =>
    intro v5 hf ls hl
    have hf : Dealer_hasLoud_b3 N (Dealer_hasLoud_h3 N s0 n1 f1 v1 v2 v3 n) s0 n1 f1 v1 v2 v3 v5 = some y := hf
    exact k_Dealer_hasLoud_b3 C0 s0 n1 f1 v1 v2 v3 v5 (fun v5 hf ls hl => ih v5 hf ls hl) hP hf ls hl
set_option maxHeartbeats 4000000 in
set_option maxRecDepth 100000 in
theorem k_Dealer_hasLoud_b0 {p : Program} {l : Launch} {e : Env} {s : State} {m : MethodId} {args : Array Value} {below : List Frame} {meth : Method} {c : Code} {dC : Nat → ClassId} {dI : Nat → Nat → Nat} {cy : Nat → ClassId} {o0 : Nat} {a0 : Nat → Nat} {o1 : Nat} {N : Nat} {y : Int32} (C0 : zCx p s m args meth c cX2_hasLoud 6 (some .boolean) RX2 (dC, dI) cy) (s0 : zSt) (n1 : Nat) (f1 : Nat → Int32) (v1 : Int32) (v2 : Int32) (v3 : Int32) (hP : va_P (dC, dI) vwCl (wd_Dealer_hasLoud cy o0 a0 (zI s0) (zL s0) (zA s0 2) o1 n1 f1) s.heap) (hf : Dealer_hasLoud_b0 N s0 n1 f1 v1 v2 v3 = some y) (ls : Array Slot) (hl : lv_has ls 6 [(0, .ref o0), (1, .int v1), (2, .int v2), (3, .int v3), (4, .ref o1)]) : W p l e rm_Dealer_hasLoud s m args below meth c s.heap [] 0 0 (MQ below (zSi y) args s 0 0 (fun _ => False)) (F0 m 0 ls []) := by
  obtain ⟨hx, hb, hr, hml, hown, hT, hk, hK⟩ := id C0
  refine lv_iconst (v := 0) hx hb dX2_hasLoud_0 (by decide) ?_
  refine lv_istore (lv' := [(5, .int 0), (0, .ref o0), (1, .int v1), (2, .int v2), (3, .int v3), (4, .ref o1)]) hx hb dX2_hasLoud_1 hl (by decide) rfl (fun ls hl => ?_)
  exact k_Dealer_hasLoud_h3 C0 s0 n1 f1 v1 v2 v3  hP N 0 hf _ (lv_sub hl [1, 2, 3, 4, 5, 0] rfl)
set_option maxHeartbeats 4000000 in
set_option maxRecDepth 100000 in
theorem c_Dealer_hasLoud {l : Launch} {dC : Nat → ClassId} {dI : Nat → Nat → Nat} {cy : Nat → ClassId} {N : Nat} (o0 : Nat) (a0 : Nat → Nat) (s0 : zSt) (o1 n1 : Nat) (f1 : Nat → Int32) (v1 : Int32) (v2 : Int32) (v3 : Int32) {y : Int32} (hf : Dealer_hasLoud N s0 n1 f1 v1 v2 v3 = some y) : Met l yX2_hasLoud (.code yX2_hasLoud cX2_hasLoud 6 (some .boolean) :: zt) rm_Dealer_hasLoud (va_Pc [.ref o0, .int v1, .int v2, .int v3, .ref o1] (zRd (dC, dI) cy (wd_Dealer_hasLoud cy o0 a0 (zI s0) (zL s0) (zA s0 2) o1 n1 f1))) (zSi y) 0 0 (fun _ => False) :=
  zentR (by decide +kernel) (Nat.le_of_ble_eq_true rfl) (fun p e s m below meth c C0 hP ls hl => k_Dealer_hasLoud_b0 C0 s0 n1 f1 v1 v2 v3 hP hf ls hl)
def wd_Dealer_twoAreKnown (cy : Nat → ClassId) (o0 : Nat) (a0 : Nat → Nat) (g0 : Nat → Int32) (h0 : Nat → Int64) (x0_2 : Nat → Int32) (o1 n1 : Nat) (f1 : Nat → Int32) : va_W := [(o0, .inr (2, fs_Dealer a0 g0 h0)), (a0 2, .inl (cy 0, 8, .inl x0_2)), (o1, .inl (cy 0, n1, .inl f1))]
def rm_Dealer_twoAreKnown : Room := { frames := 2, cells := 0, slots := 0, locals := 65 }
theorem rm_ok_Dealer_twoAreKnown_Dealer_hasLoud : rm_Dealer_hasLoud.cells = 0 ∧ rm_Dealer_hasLoud.slots = 0 ∧ rm_Dealer_hasLoud.frames + 1 ≤ rm_Dealer_twoAreKnown.frames ∧ 8 + (6 + 11) + rm_Dealer_hasLoud.locals ≤ rm_Dealer_twoAreKnown.locals := by decide
theorem rm_ok_Dealer_twoAreKnown_Math_abs : rm_Math_abs.cells = 0 ∧ rm_Math_abs.slots = 0 ∧ rm_Math_abs.frames + 1 ≤ rm_Dealer_twoAreKnown.frames ∧ 8 + (1 + 11) + rm_Math_abs.locals ≤ rm_Dealer_twoAreKnown.locals := by decide
set_option maxHeartbeats 4000000 in
set_option maxRecDepth 100000 in
theorem k_Dealer_twoAreKnown_b109 {p : Program} {l : Launch} {e : Env} {s : State} {m : MethodId} {args : Array Value} {below : List Frame} {meth : Method} {c : Code} {dC : Nat → ClassId} {dI : Nat → Nat → Nat} {cy : Nat → ClassId} {o0 : Nat} {a0 : Nat → Nat} {o1 : Nat} {N : Nat} {kh11 : Int32 → Option (Int32)} {kh20 : Int32 → Option (Int32)} {y : Int32} (C0 : zCx p s m args meth c cX2_twoAreKnown 8 (some .boolean) RX2 (dC, dI) cy) (s0 : zSt) (n1 : Nat) (f1 : Nat → Int32) (v1 : Int32) (v2 : Int32) (v4 : Int32) (v5 : Int32) (v6 : Int32) (hk11 : ∀ (v5 : Int32) (_ : kh11 v5 = some y) (ls : Array Slot) (_ : lv_has ls 8 [(0, .ref o0), (1, .int v1), (2, .int v2), (3, .ref o1), (4, .int v4), (5, .int v5)]), W p l e rm_Dealer_twoAreKnown s m args below meth c s.heap [] 0 0 (MQ below (zSi y) args s 0 0 (fun _ => False)) (F0 m 11 ls [])) (hk20 : ∀ (v6 : Int32) (_ : kh20 v6 = some y) (ls : Array Slot) (_ : lv_has ls 8 [(0, .ref o0), (1, .int v1), (2, .int v2), (3, .ref o1), (4, .int v4), (5, .int v5), (6, .int v6)]), W p l e rm_Dealer_twoAreKnown s m args below meth c s.heap [] 0 0 (MQ below (zSi y) args s 0 0 (fun _ => False)) (F0 m 20 ls [])) (hP : va_P (dC, dI) vwCl (wd_Dealer_twoAreKnown cy o0 a0 (zI s0) (zL s0) (zA s0 2) o1 n1 f1) s.heap) (hf : Dealer_twoAreKnown_b109 N kh11 kh20 s0 n1 f1 v1 v2 v4 v5 v6 = some y) (ls : Array Slot) (hl : lv_has ls 8 [(0, .ref o0), (1, .int v1), (2, .int v2), (3, .ref o1), (4, .int v4), (5, .int v5), (6, .int v6)]) : W p l e rm_Dealer_twoAreKnown s m args below meth c s.heap [] 0 0 (MQ below (zSi y) args s 0 0 (fun _ => False)) (F0 m 109 ls []) := by
  obtain ⟨hx, hb, hr, hml, hown, hT, hk, hK⟩ := id C0
  refine lv_iinc (v := v6 + 1) (lv' := [(6, .int (v6 + 1)), (0, .ref o0), (1, .int v1), (2, .int v2), (3, .ref o1), (4, .int v4), (5, .int v5)]) hx hb dX2_twoAreKnown_109 hl (k := 6) rfl rfl (by decide) rfl (fun ls hl => ?_)
  refine lv_goto (tgt := 20) hx hb dX2_twoAreKnown_112 (by decide) ?_
  exact hk20 (v6 + 1) hf _ (lv_sub hl [1, 2, 3, 4, 5, 6, 0] rfl)
set_option maxHeartbeats 4000000 in
set_option maxRecDepth 100000 in
theorem k_Dealer_twoAreKnown_b20 {p : Program} {l : Launch} {e : Env} {s : State} {m : MethodId} {args : Array Value} {below : List Frame} {meth : Method} {c : Code} {dC : Nat → ClassId} {dI : Nat → Nat → Nat} {cy : Nat → ClassId} {o0 : Nat} {a0 : Nat → Nat} {o1 : Nat} {N : Nat} {kh11 : Int32 → Option (Int32)} {kh20 : Int32 → Option (Int32)} {y : Int32} (C0 : zCx p s m args meth c cX2_twoAreKnown 8 (some .boolean) RX2 (dC, dI) cy) (s0 : zSt) (n1 : Nat) (f1 : Nat → Int32) (v1 : Int32) (v2 : Int32) (v4 : Int32) (v5 : Int32) (v6 : Int32) (hk11 : ∀ (v5 : Int32) (_ : kh11 v5 = some y) (ls : Array Slot) (_ : lv_has ls 8 [(0, .ref o0), (1, .int v1), (2, .int v2), (3, .ref o1), (4, .int v4), (5, .int v5)]), W p l e rm_Dealer_twoAreKnown s m args below meth c s.heap [] 0 0 (MQ below (zSi y) args s 0 0 (fun _ => False)) (F0 m 11 ls [])) (hk20 : ∀ (v6 : Int32) (_ : kh20 v6 = some y) (ls : Array Slot) (_ : lv_has ls 8 [(0, .ref o0), (1, .int v1), (2, .int v2), (3, .ref o1), (4, .int v4), (5, .int v5), (6, .int v6)]), W p l e rm_Dealer_twoAreKnown s m args below meth c s.heap [] 0 0 (MQ below (zSi y) args s 0 0 (fun _ => False)) (F0 m 20 ls [])) (hP : va_P (dC, dI) vwCl (wd_Dealer_twoAreKnown cy o0 a0 (zI s0) (zL s0) (zA s0 2) o1 n1 f1) s.heap) (hf : Dealer_twoAreKnown_b20 N kh11 kh20 s0 n1 f1 v1 v2 v4 v5 v6 = some y) (ls : Array Slot) (hl : lv_has ls 8 [(0, .ref o0), (1, .int v1), (2, .int v2), (3, .ref o1), (4, .int v4), (5, .int v5), (6, .int v6)]) : W p l e rm_Dealer_twoAreKnown s m args below meth c s.heap [] 0 0 (MQ below (zSi y) args s 0 0 (fun _ => False)) (F0 m 20 ls []) := by
  obtain ⟨hx, hb, hr, hml, hown, hT, hk, hK⟩ := id C0
  refine lv_iload hx hb dX2_twoAreKnown_20 (lv_at hl 6 rfl) ?_
  refine lv_iload hx hb dX2_twoAreKnown_22 (lv_at hl 5 rfl) ?_
  refine lv_icmp_ge (tgt := 115) hx hb dX2_twoAreKnown_24 (by decide) (fun hb_1 => ?_) (fun hb_1 => ?_)
  · have hf := zif_t hb_1 hf
    refine lv_iinc (v := v5 + 1) (lv' := [(5, .int (v5 + 1)), (0, .ref o0), (1, .int v1), (2, .int v2), (3, .ref o1), (4, .int v4), (6, .int v6)]) hx hb dX2_twoAreKnown_115 hl (k := 5) rfl rfl (by decide) rfl (fun ls hl => ?_)
    refine lv_goto (tgt := 11) hx hb dX2_twoAreKnown_118 (by decide) ?_
    exact hk11 (v5 + 1) hf _ (lv_sub hl [1, 2, 3, 4, 5, 0] rfl)
  · have hf := zif_f hb_1 hf
    refine lv_aload_n hx hb dX2_twoAreKnown_27 rfl (lv_at hl 3 rfl) ?_
    refine lv_iload hx hb dX2_twoAreKnown_28 (lv_at hl 5 rfl) ?_
    obtain ⟨hi2, hf⟩ := zck_some hf
    refine va_iald hx hb hK.1 hP 2 0 rfl rfl hi2 dX2_twoAreKnown_30 ?_
    refine lv_iload_n hx hb dX2_twoAreKnown_31 rfl (lv_at hl 2 rfl) ?_
    refine lv_icmp_ne (tgt := 109) hx hb dX2_twoAreKnown_32 (by decide) (fun hb_3 => ?_) (fun hb_3 => ?_)
    · have hf := zif_f hb_3 hf
      exact k_Dealer_twoAreKnown_b109 C0 s0 n1 f1 v1 v2 v4 v5 v6 hk11 hk20 hP hf _ (lv_sub hl [0, 1, 2, 3, 4, 5, 6] rfl)
    · have hf := zif_t hb_3 hf
      refine lv_aload_n hx hb dX2_twoAreKnown_35 rfl (lv_at hl 3 rfl) ?_
      refine lv_iload hx hb dX2_twoAreKnown_36 (lv_at hl 6 rfl) ?_
      obtain ⟨hi4, hf⟩ := zck_some hf
      refine va_iald hx hb hK.1 hP 2 0 rfl rfl hi4 dX2_twoAreKnown_38 ?_
      refine lv_iload_n hx hb dX2_twoAreKnown_39 rfl (lv_at hl 2 rfl) ?_
      refine lv_icmp_ne (tgt := 109) hx hb dX2_twoAreKnown_40 (by decide) (fun hb_5 => ?_) (fun hb_5 => ?_)
      · have hf := zif_f hb_5 hf
        exact k_Dealer_twoAreKnown_b109 C0 s0 n1 f1 v1 v2 v4 v5 v6 hk11 hk20 hP hf _ (lv_sub hl [0, 1, 2, 3, 4, 5, 6] rfl)
      · have hf := zif_t hb_5 hf
        refine lv_aload_n hx hb dX2_twoAreKnown_43 rfl (lv_at hl 0 rfl) ?_
        refine zget (v := .ref (a0 2)) hx hb hown hT hK hP inX2 rfl smX2 0 rfl 2 (by decide) tb_423 rfl dX2_twoAreKnown_44 ?_
        refine lv_iload hx hb dX2_twoAreKnown_47 (lv_at hl 5 rfl) ?_
        obtain ⟨hi6, hf⟩ := zck_some hf
        refine va_iald hx hb hK.1 hP 1 0 rfl rfl hi6 dX2_twoAreKnown_49 ?_
        refine lv_aload_n hx hb dX2_twoAreKnown_50 rfl (lv_at hl 0 rfl) ?_
        refine zget (v := .ref (a0 2)) hx hb hown hT hK hP inX2 rfl smX2 0 rfl 2 (by decide) tb_423 rfl dX2_twoAreKnown_51 ?_
        refine lv_iload hx hb dX2_twoAreKnown_54 (lv_at hl 6 rfl) ?_
        obtain ⟨hi7, hf⟩ := zck_some hf
        refine va_iald hx hb hK.1 hP 1 0 rfl rfl hi7 dX2_twoAreKnown_56 ?_
        refine lv_iadd hx hb dX2_twoAreKnown_57 ?_
        refine lv_istore (lv' := [(7, .int (((zA s0 2) (Int32.toNatClampNeg v5)) + ((zA s0 2) (Int32.toNatClampNeg v6)))), (0, .ref o0), (1, .int v1), (2, .int v2), (3, .ref o1), (4, .int v4), (5, .int v5), (6, .int v6)]) hx hb dX2_twoAreKnown_58 hl (by decide) rfl (fun ls hl => ?_)
        refine lv_iload hx hb dX2_twoAreKnown_60 (lv_at hl 0 rfl) ?_
        refine lv_iload hx hb dX2_twoAreKnown_62 (lv_at hl 5 rfl) ?_
        refine lv_icmp_eq (tgt := 90) hx hb dX2_twoAreKnown_64 (by decide) (fun hb_8 => ?_) (fun hb_8 => ?_)
        · have hf := zif_t hb_8 hf
          refine lv_iconst (v := 0) hx hb dX2_twoAreKnown_90 (by decide) ?_
          cases hf
          exact zerz hx hb hr hk (Or.inl rfl) dX2_twoAreKnown_91
        · have hf := zif_f hb_8 hf
          refine lv_aload_n hx hb dX2_twoAreKnown_67 rfl (lv_at hl 1 rfl) ?_
          refine zget (v := .ref (a0 2)) hx hb hown hT hK hP inX2 rfl smX2 0 rfl 2 (by decide) tb_423 rfl dX2_twoAreKnown_68 ?_
          refine lv_iload hx hb dX2_twoAreKnown_71 (lv_at hl 6 rfl) ?_
          obtain ⟨hi9, hf⟩ := zck_some hf
          refine va_iald hx hb hK.1 hP 1 0 rfl rfl hi9 dX2_twoAreKnown_73 ?_
          refine lv_aload_n hx hb dX2_twoAreKnown_74 rfl (lv_at hl 1 rfl) ?_
          refine zget (v := .ref (a0 2)) hx hb hown hT hK hP inX2 rfl smX2 0 rfl 2 (by decide) tb_423 rfl dX2_twoAreKnown_75 ?_
          refine lv_iload hx hb dX2_twoAreKnown_78 (lv_at hl 7 rfl) ?_
          obtain ⟨hi10, hf⟩ := zck_some hf
          refine va_iald hx hb hK.1 hP 1 0 rfl rfl hi10 dX2_twoAreKnown_80 ?_
          refine lv_isub hx hb dX2_twoAreKnown_81 ?_
          obtain ⟨z11, hc12, hf⟩ := zbd_some hf
          refine zri (zS (As := [.int (((zA s0 2) (Int32.toNatClampNeg v5)) - ((zA s0 2) (Int32.toNatClampNeg v6)))]) hx hb hml hown hT hl.1 (c_Math_abs (((zA s0 2) (Int32.toNatClampNeg v5)) - ((zA s0 2) (Int32.toNatClampNeg v6))) hc12) zY_Math_abs tb_947 (zpS hK hP [] rfl) rm_ok_Dealer_twoAreKnown_Math_abs rfl rfl (Nat.le_of_ble_eq_true rfl) dX2_twoAreKnown_82 ⟨Nat.zero_le _, Nat.zero_le _⟩) ?_
          refine lv_iload hx hb dX2_twoAreKnown_85 (lv_at hl 5 rfl) ?_
          refine lv_icmp_ne (tgt := 92) hx hb dX2_twoAreKnown_87 (by decide) (fun hb_13 => ?_) (fun hb_13 => ?_)
          · have hf := zif_f hb_13 hf
            refine lv_aload_n hx hb dX2_twoAreKnown_92 rfl (lv_at hl 1 rfl) ?_
            refine lv_iload hx hb dX2_twoAreKnown_93 (lv_at hl 0 rfl) ?_
            refine lv_iload hx hb dX2_twoAreKnown_95 (lv_at hl 5 rfl) ?_
            refine lv_isub hx hb dX2_twoAreKnown_97 ?_
            refine lv_iload_n hx hb dX2_twoAreKnown_98 rfl (lv_at hl 2 rfl) ?_
            refine lv_iload_n hx hb dX2_twoAreKnown_99 rfl (lv_at hl 3 rfl) ?_
            refine lv_aload_n hx hb dX2_twoAreKnown_100 rfl (lv_at hl 4 rfl) ?_
            obtain ⟨z14, hc15, hf⟩ := zbd_some hf
            refine zri (zV (As := [.int ((((zA s0 2) (Int32.toNatClampNeg v5)) + ((zA s0 2) (Int32.toNatClampNeg v6))) - v4), .int v1, .int v2, .ref o1]) hx hb hml hown hT hl.1 (c_Dealer_hasLoud o0 a0 s0 o1 n1 f1 ((((zA s0 2) (Int32.toNatClampNeg v5)) + ((zA s0 2) (Int32.toNatClampNeg v6))) - v4) v1 v2 hc15) zY_Dealer_hasLoud tb_948 (zpR hK hP [0, 1, 2] rfl 0 2 rfl rfl rfl) rm_ok_Dealer_twoAreKnown_Dealer_hasLoud rfl rfl (Nat.le_of_ble_eq_true rfl) dX2_twoAreKnown_101 ⟨Nat.zero_le _, Nat.zero_le _⟩) ?_
            refine lv_if_eq (tgt := 109) hx hb dX2_twoAreKnown_104 (by decide) (fun hb_16 => ?_) (fun hb_16 => ?_)
            · have hf := zif_t hb_16 hf
              exact k_Dealer_twoAreKnown_b109 C0 s0 n1 f1 v1 v2 v4 v5 v6 hk11 hk20 hP hf _ (lv_sub hl [1, 2, 3, 4, 5, 6, 7] rfl)
            · have hf := zif_f hb_16 hf
              refine lv_iconst (v := 0) hx hb dX2_twoAreKnown_107 (by decide) ?_
              cases hf
              exact zerz hx hb hr hk (Or.inl rfl) dX2_twoAreKnown_108
          · have hf := zif_t hb_13 hf
            refine lv_iconst (v := 0) hx hb dX2_twoAreKnown_90 (by decide) ?_
            cases hf
            exact zerz hx hb hr hk (Or.inl rfl) dX2_twoAreKnown_91
set_option maxHeartbeats 4000000 in
set_option maxRecDepth 100000 in
theorem k_Dealer_twoAreKnown_h20 {p : Program} {l : Launch} {e : Env} {s : State} {m : MethodId} {args : Array Value} {below : List Frame} {meth : Method} {c : Code} {dC : Nat → ClassId} {dI : Nat → Nat → Nat} {cy : Nat → ClassId} {o0 : Nat} {a0 : Nat → Nat} {o1 : Nat} {N : Nat} {kh11 : Int32 → Option (Int32)} {y : Int32} (C0 : zCx p s m args meth c cX2_twoAreKnown 8 (some .boolean) RX2 (dC, dI) cy) (s0 : zSt) (n1 : Nat) (f1 : (Nat → Int32)) (v1 : Int32) (v2 : Int32) (v4 : Int32) (v5 : Int32) (hk11 : ∀ (v5 : Int32) (_ : kh11 v5 = some y) (ls : Array Slot) (_ : lv_has ls 8 [(0, .ref o0), (1, .int v1), (2, .int v2), (3, .ref o1), (4, .int v4), (5, .int v5)]), W p l e rm_Dealer_twoAreKnown s m args below meth c s.heap [] 0 0 (MQ below (zSi y) args s 0 0 (fun _ => False)) (F0 m 11 ls [])) (hP : va_P (dC, dI) vwCl (wd_Dealer_twoAreKnown cy o0 a0 (zI s0) (zL s0) (zA s0 2) o1 n1 f1) s.heap) : ∀ (n : Nat) (v6 : Int32) (hf : Dealer_twoAreKnown_h20 N kh11 s0 n1 f1 v1 v2 v4 v5 n v6 = some y) (ls : Array Slot) (hl : lv_has ls 8 [(0, .ref o0), (1, .int v1), (2, .int v2), (3, .ref o1), (4, .int v4), (5, .int v5), (6, .int v6)]), W p l e rm_Dealer_twoAreKnown s m args below meth c s.heap [] 0 0 (MQ below (zSi y) args s 0 0 (fun _ => False)) (F0 m 20 ls []) := by
  intro n
  induction n with
  | zero => intro v6 hf; cases hf
  | succ n ih =>
    intro v6 hf ls hl
    have hf : Dealer_twoAreKnown_b20 N kh11 (Dealer_twoAreKnown_h20 N kh11 s0 n1 f1 v1 v2 v4 v5 n) s0 n1 f1 v1 v2 v4 v5 v6 = some y := hf
    exact k_Dealer_twoAreKnown_b20 C0 s0 n1 f1 v1 v2 v4 v5 v6 hk11 (fun v6 hf ls hl => ih v6 hf ls hl) hP hf ls hl
set_option maxHeartbeats 4000000 in
set_option maxRecDepth 100000 in
theorem k_Dealer_twoAreKnown_b11 {p : Program} {l : Launch} {e : Env} {s : State} {m : MethodId} {args : Array Value} {below : List Frame} {meth : Method} {c : Code} {dC : Nat → ClassId} {dI : Nat → Nat → Nat} {cy : Nat → ClassId} {o0 : Nat} {a0 : Nat → Nat} {o1 : Nat} {N : Nat} {kh11 : Int32 → Option (Int32)} {y : Int32} (C0 : zCx p s m args meth c cX2_twoAreKnown 8 (some .boolean) RX2 (dC, dI) cy) (s0 : zSt) (n1 : Nat) (f1 : Nat → Int32) (v1 : Int32) (v2 : Int32) (v4 : Int32) (v5 : Int32) (hk11 : ∀ (v5 : Int32) (_ : kh11 v5 = some y) (ls : Array Slot) (_ : lv_has ls 8 [(0, .ref o0), (1, .int v1), (2, .int v2), (3, .ref o1), (4, .int v4), (5, .int v5)]), W p l e rm_Dealer_twoAreKnown s m args below meth c s.heap [] 0 0 (MQ below (zSi y) args s 0 0 (fun _ => False)) (F0 m 11 ls [])) (hP : va_P (dC, dI) vwCl (wd_Dealer_twoAreKnown cy o0 a0 (zI s0) (zL s0) (zA s0 2) o1 n1 f1) s.heap) (hf : Dealer_twoAreKnown_b11 N kh11 s0 n1 f1 v1 v2 v4 v5 = some y) (ls : Array Slot) (hl : lv_has ls 8 [(0, .ref o0), (1, .int v1), (2, .int v2), (3, .ref o1), (4, .int v4), (5, .int v5)]) : W p l e rm_Dealer_twoAreKnown s m args below meth c s.heap [] 0 0 (MQ below (zSi y) args s 0 0 (fun _ => False)) (F0 m 11 ls []) := by
  obtain ⟨hx, hb, hr, hml, hown, hT, hk, hK⟩ := id C0
  refine lv_iload hx hb dX2_twoAreKnown_11 (lv_at hl 5 rfl) ?_
  refine lv_iload_n hx hb dX2_twoAreKnown_13 rfl (lv_at hl 1 rfl) ?_
  refine lv_icmp_ge (tgt := 121) hx hb dX2_twoAreKnown_14 (by decide) (fun hb_1 => ?_) (fun hb_1 => ?_)
  · have hf := zif_t hb_1 hf
    refine lv_iconst (v := 1) hx hb dX2_twoAreKnown_121 (by decide) ?_
    cases hf
    exact zerz hx hb hr hk (Or.inr rfl) dX2_twoAreKnown_122
  · have hf := zif_f hb_1 hf
    refine lv_iconst (v := 0) hx hb dX2_twoAreKnown_17 (by decide) ?_
    refine lv_istore (lv' := [(6, .int 0), (0, .ref o0), (1, .int v1), (2, .int v2), (3, .ref o1), (4, .int v4), (5, .int v5)]) hx hb dX2_twoAreKnown_18 hl (by decide) rfl (fun ls hl => ?_)
    exact k_Dealer_twoAreKnown_h20 C0 s0 n1 f1 v1 v2 v4 v5 hk11 hP N 0 hf _ (lv_sub hl [1, 2, 3, 4, 5, 6, 0] rfl)
set_option maxHeartbeats 4000000 in
set_option maxRecDepth 100000 in
theorem k_Dealer_twoAreKnown_h11 {p : Program} {l : Launch} {e : Env} {s : State} {m : MethodId} {args : Array Value} {below : List Frame} {meth : Method} {c : Code} {dC : Nat → ClassId} {dI : Nat → Nat → Nat} {cy : Nat → ClassId} {o0 : Nat} {a0 : Nat → Nat} {o1 : Nat} {N : Nat} {y : Int32} (C0 : zCx p s m args meth c cX2_twoAreKnown 8 (some .boolean) RX2 (dC, dI) cy) (s0 : zSt) (n1 : Nat) (f1 : (Nat → Int32)) (v1 : Int32) (v2 : Int32) (v4 : Int32) (hP : va_P (dC, dI) vwCl (wd_Dealer_twoAreKnown cy o0 a0 (zI s0) (zL s0) (zA s0 2) o1 n1 f1) s.heap) : ∀ (n : Nat) (v5 : Int32) (hf : Dealer_twoAreKnown_h11 N s0 n1 f1 v1 v2 v4 n v5 = some y) (ls : Array Slot) (hl : lv_has ls 8 [(0, .ref o0), (1, .int v1), (2, .int v2), (3, .ref o1), (4, .int v4), (5, .int v5)]), W p l e rm_Dealer_twoAreKnown s m args below meth c s.heap [] 0 0 (MQ below (zSi y) args s 0 0 (fun _ => False)) (F0 m 11 ls []) := by
  intro n
  induction n with
  | zero => intro v5 hf; cases hf
  | succ n ih =>
    intro v5 hf ls hl
    have hf : Dealer_twoAreKnown_b11 N (Dealer_twoAreKnown_h11 N s0 n1 f1 v1 v2 v4 n) s0 n1 f1 v1 v2 v4 v5 = some y := hf
    exact k_Dealer_twoAreKnown_b11 C0 s0 n1 f1 v1 v2 v4 v5 (fun v5 hf ls hl => ih v5 hf ls hl) hP hf ls hl
set_option maxHeartbeats 4000000 in
set_option maxRecDepth 100000 in
theorem k_Dealer_twoAreKnown_b0 {p : Program} {l : Launch} {e : Env} {s : State} {m : MethodId} {args : Array Value} {below : List Frame} {meth : Method} {c : Code} {dC : Nat → ClassId} {dI : Nat → Nat → Nat} {cy : Nat → ClassId} {o0 : Nat} {a0 : Nat → Nat} {o1 : Nat} {N : Nat} {y : Int32} (C0 : zCx p s m args meth c cX2_twoAreKnown 8 (some .boolean) RX2 (dC, dI) cy) (s0 : zSt) (n1 : Nat) (f1 : Nat → Int32) (v1 : Int32) (v2 : Int32) (hP : va_P (dC, dI) vwCl (wd_Dealer_twoAreKnown cy o0 a0 (zI s0) (zL s0) (zA s0 2) o1 n1 f1) s.heap) (hf : Dealer_twoAreKnown_b0 N s0 n1 f1 v1 v2 = some y) (ls : Array Slot) (hl : lv_has ls 8 [(0, .ref o0), (1, .int v1), (2, .int v2), (3, .ref o1)]) : W p l e rm_Dealer_twoAreKnown s m args below meth c s.heap [] 0 0 (MQ below (zSi y) args s 0 0 (fun _ => False)) (F0 m 0 ls []) := by
  obtain ⟨hx, hb, hr, hml, hown, hT, hk, hK⟩ := id C0
  refine lv_aload_n hx hb dX2_twoAreKnown_0 rfl (lv_at hl 0 rfl) ?_
  refine zget (v := .ref (a0 2)) hx hb hown hT hK hP inX2 rfl smX2 0 rfl 2 (by decide) tb_423 rfl dX2_twoAreKnown_1 ?_
  refine lv_iload_n hx hb dX2_twoAreKnown_4 rfl (lv_at hl 1 rfl) ?_
  obtain ⟨hi1, hf⟩ := zck_some hf
  refine va_iald hx hb hK.1 hP 1 0 rfl rfl hi1 dX2_twoAreKnown_5 ?_
  refine lv_istore (lv' := [(4, .int ((zA s0 2) (Int32.toNatClampNeg v1))), (0, .ref o0), (1, .int v1), (2, .int v2), (3, .ref o1)]) hx hb dX2_twoAreKnown_6 hl (by decide) rfl (fun ls hl => ?_)
  refine lv_iconst (v := 0) hx hb dX2_twoAreKnown_8 (by decide) ?_
  refine lv_istore (lv' := [(5, .int 0), (4, .int ((zA s0 2) (Int32.toNatClampNeg v1))), (0, .ref o0), (1, .int v1), (2, .int v2), (3, .ref o1)]) hx hb dX2_twoAreKnown_9 hl (by decide) rfl (fun ls hl => ?_)
  exact k_Dealer_twoAreKnown_h11 C0 s0 n1 f1 v1 v2 ((zA s0 2) (Int32.toNatClampNeg v1))  hP N 0 hf _ (lv_sub hl [2, 3, 4, 5, 1, 0] rfl)
set_option maxHeartbeats 4000000 in
set_option maxRecDepth 100000 in
theorem c_Dealer_twoAreKnown {l : Launch} {dC : Nat → ClassId} {dI : Nat → Nat → Nat} {cy : Nat → ClassId} {N : Nat} (o0 : Nat) (a0 : Nat → Nat) (s0 : zSt) (o1 n1 : Nat) (f1 : Nat → Int32) (v1 : Int32) (v2 : Int32) {y : Int32} (hf : Dealer_twoAreKnown N s0 n1 f1 v1 v2 = some y) : Met l yX2_twoAreKnown (.code yX2_twoAreKnown cX2_twoAreKnown 8 (some .boolean) :: zt) rm_Dealer_twoAreKnown (va_Pc [.ref o0, .int v1, .int v2, .ref o1] (zRd (dC, dI) cy (wd_Dealer_twoAreKnown cy o0 a0 (zI s0) (zL s0) (zA s0 2) o1 n1 f1))) (zSi y) 0 0 (fun _ => False) :=
  zentR (by decide +kernel) (Nat.le_of_ble_eq_true rfl) (fun p e s m below meth c C0 hP ls hl => k_Dealer_twoAreKnown_b0 C0 s0 n1 f1 v1 v2 hP hf ls hl)
def wd_Dealer_isKnown (cy : Nat → ClassId) (o0 : Nat) (a0 : Nat → Nat) (g0 : Nat → Int32) (h0 : Nat → Int64) (x0_2 : Nat → Int32) (o1 n1 : Nat) (f1 : Nat → Int32) : va_W := [(o0, .inr (2, fs_Dealer a0 g0 h0)), (a0 2, .inl (cy 0, 8, .inl x0_2)), (o1, .inl (cy 0, n1, .inl f1))]
def rm_Dealer_isKnown : Room := { frames := 3, cells := 0, slots := 0, locals := 92 }
theorem rm_ok_Dealer_isKnown_Dealer_twoAreKnown : rm_Dealer_twoAreKnown.cells = 0 ∧ rm_Dealer_twoAreKnown.slots = 0 ∧ rm_Dealer_twoAreKnown.frames + 1 ≤ rm_Dealer_isKnown.frames ∧ 8 + (8 + 11) + rm_Dealer_twoAreKnown.locals ≤ rm_Dealer_isKnown.locals := by decide
set_option maxHeartbeats 4000000 in
set_option maxRecDepth 100000 in
theorem k_Dealer_isKnown_b59 {p : Program} {l : Launch} {e : Env} {s : State} {m : MethodId} {args : Array Value} {below : List Frame} {meth : Method} {c : Code} {dC : Nat → ClassId} {dI : Nat → Nat → Nat} {cy : Nat → ClassId} {o0 : Nat} {a0 : Nat → Nat} {o1 : Nat} {N : Nat} {y : Int32} (C0 : zCx p s m args meth c cX2_isKnown 5 (some .boolean) RX2 (dC, dI) cy) (s0 : zSt) (n1 : Nat) (f1 : Nat → Int32) (hP : va_P (dC, dI) vwCl (wd_Dealer_isKnown cy o0 a0 (zI s0) (zL s0) (zA s0 2) o1 n1 f1) s.heap) (hf : Dealer_isKnown_b59 N s0 n1 f1 = some y) (ls : Array Slot) (hl : lv_has ls 5 []) : W p l e rm_Dealer_isKnown s m args below meth c s.heap [] 0 0 (MQ below (zSi y) args s 0 0 (fun _ => False)) (F0 m 59 ls []) := by
  obtain ⟨hx, hb, hr, hml, hown, hT, hk, hK⟩ := id C0
  refine lv_iconst (v := 1) hx hb dX2_isKnown_59 (by decide) ?_
  refine lv_goto (tgt := 64) hx hb dX2_isKnown_60 (by decide) ?_
  cases hf
  exact zerz hx hb hr hk (Or.inr rfl) dX2_isKnown_64
set_option maxHeartbeats 4000000 in
set_option maxRecDepth 100000 in
theorem k_Dealer_isKnown_b35 {p : Program} {l : Launch} {e : Env} {s : State} {m : MethodId} {args : Array Value} {below : List Frame} {meth : Method} {c : Code} {dC : Nat → ClassId} {dI : Nat → Nat → Nat} {cy : Nat → ClassId} {o0 : Nat} {a0 : Nat → Nat} {o1 : Nat} {N : Nat} {kh3 : Int32 → Option (Int32)} {y : Int32} (C0 : zCx p s m args meth c cX2_isKnown 5 (some .boolean) RX2 (dC, dI) cy) (s0 : zSt) (n1 : Nat) (f1 : Nat → Int32) (v1 : Int32) (v2 : Int32) (v4 : Int32) (hk3 : ∀ (v4 : Int32) (_ : kh3 v4 = some y) (ls : Array Slot) (_ : lv_has ls 5 [(0, .ref o0), (1, .int v1), (2, .int v2), (3, .ref o1), (4, .int v4)]), W p l e rm_Dealer_isKnown s m args below meth c s.heap [] 0 0 (MQ below (zSi y) args s 0 0 (fun _ => False)) (F0 m 3 ls [])) (hP : va_P (dC, dI) vwCl (wd_Dealer_isKnown cy o0 a0 (zI s0) (zL s0) (zA s0 2) o1 n1 f1) s.heap) (hf : Dealer_isKnown_b35 N kh3 s0 n1 f1 v1 v2 v4 = some y) (ls : Array Slot) (hl : lv_has ls 5 [(0, .ref o0), (1, .int v1), (2, .int v2), (3, .ref o1), (4, .int v4)]) : W p l e rm_Dealer_isKnown s m args below meth c s.heap [] 0 0 (MQ below (zSi y) args s 0 0 (fun _ => False)) (F0 m 35 ls []) := by
  obtain ⟨hx, hb, hr, hml, hown, hT, hk, hK⟩ := id C0
  refine lv_iinc (v := v4 + 1) (lv' := [(4, .int (v4 + 1)), (0, .ref o0), (1, .int v1), (2, .int v2), (3, .ref o1)]) hx hb dX2_isKnown_35 hl (k := 4) rfl rfl (by decide) rfl (fun ls hl => ?_)
  refine lv_goto (tgt := 3) hx hb dX2_isKnown_38 (by decide) ?_
  exact hk3 (v4 + 1) hf _ (lv_sub hl [1, 2, 3, 4, 0] rfl)
set_option maxHeartbeats 4000000 in
set_option maxRecDepth 100000 in
theorem k_Dealer_isKnown_b3 {p : Program} {l : Launch} {e : Env} {s : State} {m : MethodId} {args : Array Value} {below : List Frame} {meth : Method} {c : Code} {dC : Nat → ClassId} {dI : Nat → Nat → Nat} {cy : Nat → ClassId} {o0 : Nat} {a0 : Nat → Nat} {o1 : Nat} {N : Nat} {kh3 : Int32 → Option (Int32)} {y : Int32} (C0 : zCx p s m args meth c cX2_isKnown 5 (some .boolean) RX2 (dC, dI) cy) (s0 : zSt) (n1 : Nat) (f1 : Nat → Int32) (v1 : Int32) (v2 : Int32) (v4 : Int32) (hk3 : ∀ (v4 : Int32) (_ : kh3 v4 = some y) (ls : Array Slot) (_ : lv_has ls 5 [(0, .ref o0), (1, .int v1), (2, .int v2), (3, .ref o1), (4, .int v4)]), W p l e rm_Dealer_isKnown s m args below meth c s.heap [] 0 0 (MQ below (zSi y) args s 0 0 (fun _ => False)) (F0 m 3 ls [])) (hP : va_P (dC, dI) vwCl (wd_Dealer_isKnown cy o0 a0 (zI s0) (zL s0) (zA s0 2) o1 n1 f1) s.heap) (hf : Dealer_isKnown_b3 N kh3 s0 n1 f1 v1 v2 v4 = some y) (ls : Array Slot) (hl : lv_has ls 5 [(0, .ref o0), (1, .int v1), (2, .int v2), (3, .ref o1), (4, .int v4)]) : W p l e rm_Dealer_isKnown s m args below meth c s.heap [] 0 0 (MQ below (zSi y) args s 0 0 (fun _ => False)) (F0 m 3 ls []) := by
  obtain ⟨hx, hb, hr, hml, hown, hT, hk, hK⟩ := id C0
  refine lv_iload hx hb dX2_isKnown_3 (lv_at hl 4 rfl) ?_
  refine lv_iload_n hx hb dX2_isKnown_5 rfl (lv_at hl 1 rfl) ?_
  refine lv_icmp_ge (tgt := 41) hx hb dX2_isKnown_6 (by decide) (fun hb_1 => ?_) (fun hb_1 => ?_)
  · have hf := zif_t hb_1 hf
    refine lv_aload_n hx hb dX2_isKnown_41 rfl (lv_at hl 0 rfl) ?_
    refine zget (v := .int (zI s0 1)) hx hb hown hT hK hP inX2 rfl smX2 0 rfl 1 (by decide) tb_422 rfl dX2_isKnown_42 ?_
    refine lv_iconst (v := 1) hx hb dX2_isKnown_45 (by decide) ?_
    refine lv_icmp_eq (tgt := 59) hx hb dX2_isKnown_46 (by decide) (fun hb_2 => ?_) (fun hb_2 => ?_)
    · have hf := zif_t hb_2 hf
      exact k_Dealer_isKnown_b59 C0 s0 n1 f1  hP hf _ (lv_sub hl [] rfl)
    · have hf := zif_f hb_2 hf
      refine lv_aload_n hx hb dX2_isKnown_49 rfl (lv_at hl 0 rfl) ?_
      refine lv_iload_n hx hb dX2_isKnown_50 rfl (lv_at hl 1 rfl) ?_
      refine lv_iload_n hx hb dX2_isKnown_51 rfl (lv_at hl 2 rfl) ?_
      refine lv_aload_n hx hb dX2_isKnown_52 rfl (lv_at hl 3 rfl) ?_
      obtain ⟨z3, hc4, hf⟩ := zbd_some hf
      refine zri (zV (As := [.int v1, .int v2, .ref o1]) hx hb hml hown hT hl.1 (c_Dealer_twoAreKnown o0 a0 s0 o1 n1 f1 v1 v2 hc4) zY_Dealer_twoAreKnown tb_943 (zpR hK hP [0, 1, 2] rfl 0 2 rfl rfl rfl) rm_ok_Dealer_isKnown_Dealer_twoAreKnown rfl rfl (Nat.le_of_ble_eq_true rfl) dX2_isKnown_53 ⟨Nat.zero_le _, Nat.zero_le _⟩) ?_
      refine lv_if_eq (tgt := 63) hx hb dX2_isKnown_56 (by decide) (fun hb_5 => ?_) (fun hb_5 => ?_)
      · have hf := zif_t hb_5 hf
        refine lv_iconst (v := 0) hx hb dX2_isKnown_63 (by decide) ?_
        cases hf
        exact zerz hx hb hr hk (Or.inl rfl) dX2_isKnown_64
      · have hf := zif_f hb_5 hf
        exact k_Dealer_isKnown_b59 C0 s0 n1 f1  hP hf _ (lv_sub hl [] rfl)
  · have hf := zif_f hb_1 hf
    refine lv_aload_n hx hb dX2_isKnown_9 rfl (lv_at hl 3 rfl) ?_
    refine lv_iload hx hb dX2_isKnown_10 (lv_at hl 4 rfl) ?_
    obtain ⟨hi6, hf⟩ := zck_some hf
    refine va_iald hx hb hK.1 hP 2 0 rfl rfl hi6 dX2_isKnown_12 ?_
    refine lv_iload_n hx hb dX2_isKnown_13 rfl (lv_at hl 2 rfl) ?_
    refine lv_icmp_ne (tgt := 35) hx hb dX2_isKnown_14 (by decide) (fun hb_7 => ?_) (fun hb_7 => ?_)
    · have hf := zif_f hb_7 hf
      exact k_Dealer_isKnown_b35 C0 s0 n1 f1 v1 v2 v4 hk3 hP hf _ (lv_sub hl [0, 1, 2, 3, 4] rfl)
    · have hf := zif_t hb_7 hf
      refine lv_aload_n hx hb dX2_isKnown_17 rfl (lv_at hl 0 rfl) ?_
      refine zget (v := .ref (a0 2)) hx hb hown hT hK hP inX2 rfl smX2 0 rfl 2 (by decide) tb_423 rfl dX2_isKnown_18 ?_
      refine lv_iload hx hb dX2_isKnown_21 (lv_at hl 4 rfl) ?_
      obtain ⟨hi8, hf⟩ := zck_some hf
      refine va_iald hx hb hK.1 hP 1 0 rfl rfl hi8 dX2_isKnown_23 ?_
      refine lv_aload_n hx hb dX2_isKnown_24 rfl (lv_at hl 0 rfl) ?_
      refine zget (v := .ref (a0 2)) hx hb hown hT hK hP inX2 rfl smX2 0 rfl 2 (by decide) tb_423 rfl dX2_isKnown_25 ?_
      refine lv_iload_n hx hb dX2_isKnown_28 rfl (lv_at hl 1 rfl) ?_
      obtain ⟨hi9, hf⟩ := zck_some hf
      refine va_iald hx hb hK.1 hP 1 0 rfl rfl hi9 dX2_isKnown_29 ?_
      refine lv_icmp_ne (tgt := 35) hx hb dX2_isKnown_30 (by decide) (fun hb_10 => ?_) (fun hb_10 => ?_)
      · have hf := zif_f hb_10 hf
        exact k_Dealer_isKnown_b35 C0 s0 n1 f1 v1 v2 v4 hk3 hP hf _ (lv_sub hl [0, 1, 2, 3, 4] rfl)
      · have hf := zif_t hb_10 hf
        refine lv_iconst (v := 0) hx hb dX2_isKnown_33 (by decide) ?_
        cases hf
        exact zerz hx hb hr hk (Or.inl rfl) dX2_isKnown_34
set_option maxHeartbeats 4000000 in
set_option maxRecDepth 100000 in
theorem k_Dealer_isKnown_h3 {p : Program} {l : Launch} {e : Env} {s : State} {m : MethodId} {args : Array Value} {below : List Frame} {meth : Method} {c : Code} {dC : Nat → ClassId} {dI : Nat → Nat → Nat} {cy : Nat → ClassId} {o0 : Nat} {a0 : Nat → Nat} {o1 : Nat} {N : Nat} {y : Int32} (C0 : zCx p s m args meth c cX2_isKnown 5 (some .boolean) RX2 (dC, dI) cy) (s0 : zSt) (n1 : Nat) (f1 : (Nat → Int32)) (v1 : Int32) (v2 : Int32) (hP : va_P (dC, dI) vwCl (wd_Dealer_isKnown cy o0 a0 (zI s0) (zL s0) (zA s0 2) o1 n1 f1) s.heap) : ∀ (n : Nat) (v4 : Int32) (hf : Dealer_isKnown_h3 N s0 n1 f1 v1 v2 n v4 = some y) (ls : Array Slot) (hl : lv_has ls 5 [(0, .ref o0), (1, .int v1), (2, .int v2), (3, .ref o1), (4, .int v4)]), W p l e rm_Dealer_isKnown s m args below meth c s.heap [] 0 0 (MQ below (zSi y) args s 0 0 (fun _ => False)) (F0 m 3 ls []) := by
  intro n
  induction n with
  | zero => intro v4 hf; cases hf
  | succ n ih =>
    intro v4 hf ls hl
    have hf : Dealer_isKnown_b3 N (Dealer_isKnown_h3 N s0 n1 f1 v1 v2 n) s0 n1 f1 v1 v2 v4 = some y := hf
    exact k_Dealer_isKnown_b3 C0 s0 n1 f1 v1 v2 v4 (fun v4 hf ls hl => ih v4 hf ls hl) hP hf ls hl
set_option maxHeartbeats 4000000 in
set_option maxRecDepth 100000 in
theorem k_Dealer_isKnown_b0 {p : Program} {l : Launch} {e : Env} {s : State} {m : MethodId} {args : Array Value} {below : List Frame} {meth : Method} {c : Code} {dC : Nat → ClassId} {dI : Nat → Nat → Nat} {cy : Nat → ClassId} {o0 : Nat} {a0 : Nat → Nat} {o1 : Nat} {N : Nat} {y : Int32} (C0 : zCx p s m args meth c cX2_isKnown 5 (some .boolean) RX2 (dC, dI) cy) (s0 : zSt) (n1 : Nat) (f1 : Nat → Int32) (v1 : Int32) (v2 : Int32) (hP : va_P (dC, dI) vwCl (wd_Dealer_isKnown cy o0 a0 (zI s0) (zL s0) (zA s0 2) o1 n1 f1) s.heap) (hf : Dealer_isKnown_b0 N s0 n1 f1 v1 v2 = some y) (ls : Array Slot) (hl : lv_has ls 5 [(0, .ref o0), (1, .int v1), (2, .int v2), (3, .ref o1)]) : W p l e rm_Dealer_isKnown s m args below meth c s.heap [] 0 0 (MQ below (zSi y) args s 0 0 (fun _ => False)) (F0 m 0 ls []) := by
  obtain ⟨hx, hb, hr, hml, hown, hT, hk, hK⟩ := id C0
  refine lv_iconst (v := 0) hx hb dX2_isKnown_0 (by decide) ?_
  refine lv_istore (lv' := [(4, .int 0), (0, .ref o0), (1, .int v1), (2, .int v2), (3, .ref o1)]) hx hb dX2_isKnown_1 hl (by decide) rfl (fun ls hl => ?_)
  exact k_Dealer_isKnown_h3 C0 s0 n1 f1 v1 v2  hP N 0 hf _ (lv_sub hl [1, 2, 3, 4, 0] rfl)
set_option maxHeartbeats 4000000 in
set_option maxRecDepth 100000 in
theorem c_Dealer_isKnown {l : Launch} {dC : Nat → ClassId} {dI : Nat → Nat → Nat} {cy : Nat → ClassId} {N : Nat} (o0 : Nat) (a0 : Nat → Nat) (s0 : zSt) (o1 n1 : Nat) (f1 : Nat → Int32) (v1 : Int32) (v2 : Int32) {y : Int32} (hf : Dealer_isKnown N s0 n1 f1 v1 v2 = some y) : Met l yX2_isKnown (.code yX2_isKnown cX2_isKnown 5 (some .boolean) :: zt) rm_Dealer_isKnown (va_Pc [.ref o0, .int v1, .int v2, .ref o1] (zRd (dC, dI) cy (wd_Dealer_isKnown cy o0 a0 (zI s0) (zL s0) (zA s0 2) o1 n1 f1))) (zSi y) 0 0 (fun _ => False) :=
  zentR (by decide +kernel) (Nat.le_of_ble_eq_true rfl) (fun p e s m below meth c C0 hP ls hl => k_Dealer_isKnown_b0 C0 s0 n1 f1 v1 v2 hP hf ls hl)
def wd_Dealer_dealFrom (cy : Nat → ClassId) (o0 : Nat) (a0 : Nat → Nat) (g0 : Nat → Int32) (h0 : Nat → Int64) (x0_2 : Nat → Int32) (o1 n1 : Nat) (f1 : Nat → Int32) : va_W := [(o0, .inr (2, fs_Dealer a0 g0 h0)), (a0 2, .inl (cy 0, 8, .inl x0_2)), (o1, .inl (cy 0, n1, .inl f1))]
def rm_Dealer_dealFrom (d : Nat) : Room := { frames := 4 + d, cells := 0, slots := 0, locals := 116 + d * 25 }
theorem rm_ok_Dealer_dealFrom_Dealer_dealFrom {d : Nat} : (rm_Dealer_dealFrom d).cells = 0 ∧ (rm_Dealer_dealFrom d).slots = 0 ∧ (rm_Dealer_dealFrom d).frames + 1 ≤ (rm_Dealer_dealFrom (d + 1)).frames ∧ 8 + (6 + 11) + (rm_Dealer_dealFrom d).locals ≤ (rm_Dealer_dealFrom (d + 1)).locals := ⟨rfl, rfl, by simp only [rm_Dealer_dealFrom, rm_Dealer_dealFrom]; omega, by simp only [rm_Dealer_dealFrom, rm_Dealer_dealFrom]; omega⟩
theorem rm_ok_Dealer_dealFrom_Dealer_isKnown {d : Nat} : rm_Dealer_isKnown.cells = 0 ∧ rm_Dealer_isKnown.slots = 0 ∧ rm_Dealer_isKnown.frames + 1 ≤ (rm_Dealer_dealFrom (d + 1)).frames ∧ 8 + (5 + 11) + rm_Dealer_isKnown.locals ≤ (rm_Dealer_dealFrom (d + 1)).locals := ⟨rfl, rfl, by simp only [rm_Dealer_dealFrom, rm_Dealer_isKnown]; omega, by simp only [rm_Dealer_dealFrom, rm_Dealer_isKnown]; omega⟩
theorem rm_ok_Dealer_dealFrom_Math_max {d : Nat} : rm_Math_max.cells = 0 ∧ rm_Math_max.slots = 0 ∧ rm_Math_max.frames + 1 ≤ (rm_Dealer_dealFrom (d + 1)).frames ∧ 8 + (2 + 11) + rm_Math_max.locals ≤ (rm_Dealer_dealFrom (d + 1)).locals := ⟨rfl, rfl, by simp only [rm_Dealer_dealFrom, rm_Math_max]; omega, by simp only [rm_Dealer_dealFrom, rm_Math_max]; omega⟩
set_option maxHeartbeats 4000000 in
set_option maxRecDepth 100000 in
theorem k_Dealer_dealFrom_b66 {p : Program} {l : Launch} {e : Env} {s : State} {m : MethodId} {args : Array Value} {below : List Frame} {meth : Method} {c : Code} {dC : Nat → ClassId} {dI : Nat → Nat → Nat} {cy : Nat → ClassId} {A : Nat → Prop} {o0 : Nat} {a0 : Nat → Nat} {o1 : Nat} {N : Nat} {d : Nat} {kr : zSt → Nat → (Nat → Int32) → Int32 → Int32 → Int32 → Option (Int32 × (Nat → Int32))} {kh13 : (Nat → Int32) → Int32 → Option (Int32 × (Nat → Int32))} {y : Int32 × (Nat → Int32)} (C0 : zCx p s m args meth c cX2_dealFrom 6 (some .boolean) RX2 (dC, dI) cy) (s0 : zSt) (n1 : Nat) (f1 : Nat → Int32) (v1 : Int32) (v2 : Int32) (v3 : Int32) (v5 : Int32) (hkr : ∀ {sz : Nat} (o0 : Nat) (a0 : Nat → Nat) (s0 : zSt) (o1 n1 : Nat) (f1 : Nat → Int32) (v1 : Int32) (v2 : Int32) (v3 : Int32) {y : Int32 × (Nat → Int32)}, kr s0 n1 f1 v1 v2 v3 = some y → Met l yX2_dealFrom (.code yX2_dealFrom cX2_dealFrom 6 (some .boolean) :: zt) (rm_Dealer_dealFrom d) (va_Pc [.ref o0, .int v1, .int v2, .int v3, .ref o1] (zPre (dC, dI) cy (wd_Dealer_dealFrom cy o0 a0 (zI s0) (zL s0) (zA s0 2) o1 n1 f1) sz)) (zQi y.1 (dC, dI) cy (wd_Dealer_dealFrom cy o0 a0 (zI s0) (zL s0) (zA s0 2) o1 n1 y.2) (va_A (wd_Dealer_dealFrom cy o0 a0 (zI s0) (zL s0) (zA s0 2) o1 n1 f1) sz)) 0 0 (va_A (wd_Dealer_dealFrom cy o0 a0 (zI s0) (zL s0) (zA s0 2) o1 n1 f1) sz)) (hk13 : ∀ (f1 : (Nat → Int32)) (v5 : Int32) {H : Heap} {locs : List Loc} (_ : va_P (dC, dI) vwCl (wd_Dealer_dealFrom cy o0 a0 (zI s0) (zL s0) (zA s0 2) o1 n1 f1) H) (_ : va_D A (wd_Dealer_dealFrom cy o0 a0 (zI s0) (zL s0) (zA s0 2) o1 n1 f1)) (_ : va_S A s.heap H locs) (_ : kh13 f1 v5 = some y) (ls : Array Slot) (_ : lv_has ls 6 [(0, .ref o0), (1, .int v1), (2, .int v2), (3, .int v3), (4, .ref o1), (5, .int v5)]), W p l e (rm_Dealer_dealFrom (d + 1)) s m args below meth c H locs 0 0 (MQ below (zQi y.1 (dC, dI) cy (wd_Dealer_dealFrom cy o0 a0 (zI s0) (zL s0) (zA s0 2) o1 n1 y.2) A) args s 0 0 A) (F0 m 13 ls [])) (hA : ∀ q, s.heap.size ≤ q → A q) {H : Heap} {locs : List Loc} (hP : va_P (dC, dI) vwCl (wd_Dealer_dealFrom cy o0 a0 (zI s0) (zL s0) (zA s0 2) o1 n1 f1) H) (hD : va_D A (wd_Dealer_dealFrom cy o0 a0 (zI s0) (zL s0) (zA s0 2) o1 n1 f1)) (hS : va_S A s.heap H locs) (hf : Dealer_dealFrom_b66 N kr kh13 s0 n1 f1 v1 v2 v3 v5 = some y) (ls : Array Slot) (hl : lv_has ls 6 [(0, .ref o0), (1, .int v1), (2, .int v2), (3, .int v3), (4, .ref o1), (5, .int v5)]) : W p l e (rm_Dealer_dealFrom (d + 1)) s m args below meth c H locs 0 0 (MQ below (zQi y.1 (dC, dI) cy (wd_Dealer_dealFrom cy o0 a0 (zI s0) (zL s0) (zA s0 2) o1 n1 y.2) A) args s 0 0 A) (F0 m 66 ls []) := by
  obtain ⟨hx, hb, hr, hml, hown, hT, hk, hK⟩ := id C0
  refine lv_iinc (v := v5 + 1) (lv' := [(5, .int (v5 + 1)), (0, .ref o0), (1, .int v1), (2, .int v2), (3, .int v3), (4, .ref o1)]) hx hb dX2_dealFrom_66 hl (k := 5) rfl rfl (by decide) rfl (fun ls hl => ?_)
  refine lv_goto (tgt := 13) hx hb dX2_dealFrom_69 (by decide) ?_
  exact hk13 f1 (v5 + 1) hP hD hS hf _ (lv_sub hl [1, 2, 3, 4, 5, 0] rfl)
set_option maxHeartbeats 4000000 in
set_option maxRecDepth 100000 in
theorem k_Dealer_dealFrom_b13 {p : Program} {l : Launch} {e : Env} {s : State} {m : MethodId} {args : Array Value} {below : List Frame} {meth : Method} {c : Code} {dC : Nat → ClassId} {dI : Nat → Nat → Nat} {cy : Nat → ClassId} {A : Nat → Prop} {o0 : Nat} {a0 : Nat → Nat} {o1 : Nat} {N : Nat} {d : Nat} {kr : zSt → Nat → (Nat → Int32) → Int32 → Int32 → Int32 → Option (Int32 × (Nat → Int32))} {kh13 : (Nat → Int32) → Int32 → Option (Int32 × (Nat → Int32))} {y : Int32 × (Nat → Int32)} (C0 : zCx p s m args meth c cX2_dealFrom 6 (some .boolean) RX2 (dC, dI) cy) (s0 : zSt) (n1 : Nat) (f1 : Nat → Int32) (v1 : Int32) (v2 : Int32) (v3 : Int32) (v5 : Int32) (hkr : ∀ {sz : Nat} (o0 : Nat) (a0 : Nat → Nat) (s0 : zSt) (o1 n1 : Nat) (f1 : Nat → Int32) (v1 : Int32) (v2 : Int32) (v3 : Int32) {y : Int32 × (Nat → Int32)}, kr s0 n1 f1 v1 v2 v3 = some y → Met l yX2_dealFrom (.code yX2_dealFrom cX2_dealFrom 6 (some .boolean) :: zt) (rm_Dealer_dealFrom d) (va_Pc [.ref o0, .int v1, .int v2, .int v3, .ref o1] (zPre (dC, dI) cy (wd_Dealer_dealFrom cy o0 a0 (zI s0) (zL s0) (zA s0 2) o1 n1 f1) sz)) (zQi y.1 (dC, dI) cy (wd_Dealer_dealFrom cy o0 a0 (zI s0) (zL s0) (zA s0 2) o1 n1 y.2) (va_A (wd_Dealer_dealFrom cy o0 a0 (zI s0) (zL s0) (zA s0 2) o1 n1 f1) sz)) 0 0 (va_A (wd_Dealer_dealFrom cy o0 a0 (zI s0) (zL s0) (zA s0 2) o1 n1 f1) sz)) (hk13 : ∀ (f1 : (Nat → Int32)) (v5 : Int32) {H : Heap} {locs : List Loc} (_ : va_P (dC, dI) vwCl (wd_Dealer_dealFrom cy o0 a0 (zI s0) (zL s0) (zA s0 2) o1 n1 f1) H) (_ : va_D A (wd_Dealer_dealFrom cy o0 a0 (zI s0) (zL s0) (zA s0 2) o1 n1 f1)) (_ : va_S A s.heap H locs) (_ : kh13 f1 v5 = some y) (ls : Array Slot) (_ : lv_has ls 6 [(0, .ref o0), (1, .int v1), (2, .int v2), (3, .int v3), (4, .ref o1), (5, .int v5)]), W p l e (rm_Dealer_dealFrom (d + 1)) s m args below meth c H locs 0 0 (MQ below (zQi y.1 (dC, dI) cy (wd_Dealer_dealFrom cy o0 a0 (zI s0) (zL s0) (zA s0 2) o1 n1 y.2) A) args s 0 0 A) (F0 m 13 ls [])) (hA : ∀ q, s.heap.size ≤ q → A q) {H : Heap} {locs : List Loc} (hP : va_P (dC, dI) vwCl (wd_Dealer_dealFrom cy o0 a0 (zI s0) (zL s0) (zA s0 2) o1 n1 f1) H) (hD : va_D A (wd_Dealer_dealFrom cy o0 a0 (zI s0) (zL s0) (zA s0 2) o1 n1 f1)) (hS : va_S A s.heap H locs) (hf : Dealer_dealFrom_b13 N kr kh13 s0 n1 f1 v1 v2 v3 v5 = some y) (ls : Array Slot) (hl : lv_has ls 6 [(0, .ref o0), (1, .int v1), (2, .int v2), (3, .int v3), (4, .ref o1), (5, .int v5)]) : W p l e (rm_Dealer_dealFrom (d + 1)) s m args below meth c H locs 0 0 (MQ below (zQi y.1 (dC, dI) cy (wd_Dealer_dealFrom cy o0 a0 (zI s0) (zL s0) (zA s0 2) o1 n1 y.2) A) args s 0 0 A) (F0 m 13 ls []) := by
  obtain ⟨hx, hb, hr, hml, hown, hT, hk, hK⟩ := id C0
  refine lv_iload hx hb dX2_dealFrom_13 (lv_at hl 5 rfl) ?_
  refine lv_iload_n hx hb dX2_dealFrom_15 rfl (lv_at hl 2 rfl) ?_
  refine lv_icmp_gt (tgt := 72) hx hb dX2_dealFrom_16 (by decide) (fun hb_1 => ?_) (fun hb_1 => ?_)
  · have hf := zif_t hb_1 hf
    refine lv_iconst (v := 0) hx hb dX2_dealFrom_72 (by decide) ?_
    cases hf
    exact zewz hx hb hr hk (Or.inl rfl) hK hP hD hS dX2_dealFrom_73
  · have hf := zif_f hb_1 hf
    refine lv_iload hx hb dX2_dealFrom_19 (lv_at hl 5 rfl) ?_
    refine lv_iload_n hx hb dX2_dealFrom_21 rfl (lv_at hl 3 rfl) ?_
    refine lv_icmp_ge (tgt := 72) hx hb dX2_dealFrom_22 (by decide) (fun hb_2 => ?_) (fun hb_2 => ?_)
    · have hf := zif_t hb_2 hf
      refine lv_iconst (v := 0) hx hb dX2_dealFrom_72 (by decide) ?_
      cases hf
      exact zewz hx hb hr hk (Or.inl rfl) hK hP hD hS dX2_dealFrom_73
    · have hf := zif_f hb_2 hf
      refine lv_aload_n hx hb dX2_dealFrom_25 rfl (lv_at hl 0 rfl) ?_
      refine lv_iload_n hx hb dX2_dealFrom_26 rfl (lv_at hl 1 rfl) ?_
      refine lv_iload hx hb dX2_dealFrom_27 (lv_at hl 5 rfl) ?_
      refine lv_aload hx hb dX2_dealFrom_29 (lv_at hl 4 rfl) ?_
      obtain ⟨z3, hc4, hf⟩ := zbd_some hf
      refine zri (zV (As := [.int v1, .int v5, .ref o1]) hx hb hml hown hT hl.1 (c_Dealer_isKnown o0 a0 s0 o1 n1 f1 v1 v5 hc4) zY_Dealer_isKnown tb_939 (zpR hK hP [0, 1, 2] rfl 0 2 rfl rfl rfl) rm_ok_Dealer_dealFrom_Dealer_isKnown rfl rfl (Nat.le_of_ble_eq_true rfl) dX2_dealFrom_31 ⟨Nat.zero_le _, Nat.zero_le _⟩) ?_
      refine lv_if_eq (tgt := 66) hx hb dX2_dealFrom_34 (by decide) (fun hb_5 => ?_) (fun hb_5 => ?_)
      · have hf := zif_t hb_5 hf
        exact k_Dealer_dealFrom_b66 C0 s0 n1 f1 v1 v2 v3 v5 hkr hk13 hA hP hD hS hf _ (lv_sub hl [0, 1, 2, 3, 4, 5] rfl)
      · have hf := zif_f hb_5 hf
        refine lv_aload hx hb dX2_dealFrom_37 (lv_at hl 4 rfl) ?_
        refine lv_iload_n hx hb dX2_dealFrom_39 rfl (lv_at hl 1 rfl) ?_
        refine lv_iload hx hb dX2_dealFrom_40 (lv_at hl 5 rfl) ?_
        obtain ⟨hi6, hf⟩ := zck_some hf
        refine zast (ws' := (wd_Dealer_dealFrom cy o0 a0 (zI s0) (zL s0) (zA s0 2) o1 n1 (upd f1 (Int32.toNatClampNeg v1) v5))) hx hb hK hP hD hS 2 0 rfl rfl hi6 rfl dX2_dealFrom_42 (fun H locs hP hD hS => ?_)
        refine lv_aload_n hx hb dX2_dealFrom_43 rfl (lv_at hl 0 rfl) ?_
        refine lv_iload_n hx hb dX2_dealFrom_44 rfl (lv_at hl 1 rfl) ?_
        refine lv_iconst (v := 1) hx hb dX2_dealFrom_45 (by decide) ?_
        refine lv_iadd hx hb dX2_dealFrom_46 ?_
        refine lv_iload_n hx hb dX2_dealFrom_47 rfl (lv_at hl 2 rfl) ?_
        refine lv_iload hx hb dX2_dealFrom_48 (lv_at hl 5 rfl) ?_
        refine lv_iconst (v := 1) hx hb dX2_dealFrom_50 (by decide) ?_
        refine lv_iadd hx hb dX2_dealFrom_51 ?_
        obtain ⟨z7, hc8, hf⟩ := zbd_some hf
        refine zri (zS (As := [.int v2, .int (v5 + 1)]) hx hb hml hown hT hl.1 (c_Math_max v2 (v5 + 1) hc8) zY_Math_max tb_952 (zpS hK hP [] rfl) rm_ok_Dealer_dealFrom_Math_max rfl rfl (Nat.le_of_ble_eq_true rfl) dX2_dealFrom_52 ⟨Nat.zero_le _, Nat.zero_le _⟩) ?_
        refine lv_iload_n hx hb dX2_dealFrom_55 rfl (lv_at hl 3 rfl) ?_
        refine lv_aload hx hb dX2_dealFrom_56 (lv_at hl 4 rfl) ?_
        obtain ⟨z9, hc10, hf⟩ := zbd_some hf
        refine zwi (wr := []) (ws' := (wd_Dealer_dealFrom cy o0 a0 (zI s0) (zL s0) (zA s0 2) o1 n1 z9.2)) (zV (As := [.int (v1 + 1), .int z7, .int v3, .ref o1]) hx hb hml hown hT hl.1 (hkr o0 a0 s0 o1 n1 (upd f1 (Int32.toNatClampNeg v1) v5) (v1 + 1) z7 v3 hc10) zY_Dealer_dealFrom tb_935 (zpRw hK hP hD [0, 1, 2] (by decide) rfl 0 2 rfl rfl rfl rfl) rm_ok_Dealer_dealFrom_Dealer_dealFrom rfl rfl (Nat.le_of_ble_eq_true rfl) dX2_dealFrom_58 ⟨Nat.zero_le _, Nat.zero_le _⟩) hP hD hS hA [0, 1, 2] [] [0, 1, 2] rfl rfl (by decide) (by decide) (by decide) rfl rfl (fun H locs hP hD hS => ?_)
        refine lv_if_eq (tgt := 66) hx hb dX2_dealFrom_61 (by decide) (fun hb_11 => ?_) (fun hb_11 => ?_)
        · have hf := zif_t hb_11 hf
          exact k_Dealer_dealFrom_b66 C0 s0 n1 z9.2 v1 v2 v3 v5 hkr hk13 hA hP hD hS hf _ (lv_sub hl [0, 1, 2, 3, 4, 5] rfl)
        · have hf := zif_f hb_11 hf
          refine lv_iconst (v := 1) hx hb dX2_dealFrom_64 (by decide) ?_
          cases hf
          exact zewz hx hb hr hk (Or.inr rfl) hK hP hD hS dX2_dealFrom_65
set_option maxHeartbeats 4000000 in
set_option maxRecDepth 100000 in
theorem k_Dealer_dealFrom_h13 {p : Program} {l : Launch} {e : Env} {s : State} {m : MethodId} {args : Array Value} {below : List Frame} {meth : Method} {c : Code} {dC : Nat → ClassId} {dI : Nat → Nat → Nat} {cy : Nat → ClassId} {A : Nat → Prop} {o0 : Nat} {a0 : Nat → Nat} {o1 : Nat} {N : Nat} {d : Nat} {kr : zSt → Nat → (Nat → Int32) → Int32 → Int32 → Int32 → Option (Int32 × (Nat → Int32))} {y : Int32 × (Nat → Int32)} (C0 : zCx p s m args meth c cX2_dealFrom 6 (some .boolean) RX2 (dC, dI) cy) (s0 : zSt) (n1 : Nat) (v1 : Int32) (v2 : Int32) (v3 : Int32) (hkr : ∀ {sz : Nat} (o0 : Nat) (a0 : Nat → Nat) (s0 : zSt) (o1 n1 : Nat) (f1 : Nat → Int32) (v1 : Int32) (v2 : Int32) (v3 : Int32) {y : Int32 × (Nat → Int32)}, kr s0 n1 f1 v1 v2 v3 = some y → Met l yX2_dealFrom (.code yX2_dealFrom cX2_dealFrom 6 (some .boolean) :: zt) (rm_Dealer_dealFrom d) (va_Pc [.ref o0, .int v1, .int v2, .int v3, .ref o1] (zPre (dC, dI) cy (wd_Dealer_dealFrom cy o0 a0 (zI s0) (zL s0) (zA s0 2) o1 n1 f1) sz)) (zQi y.1 (dC, dI) cy (wd_Dealer_dealFrom cy o0 a0 (zI s0) (zL s0) (zA s0 2) o1 n1 y.2) (va_A (wd_Dealer_dealFrom cy o0 a0 (zI s0) (zL s0) (zA s0 2) o1 n1 f1) sz)) 0 0 (va_A (wd_Dealer_dealFrom cy o0 a0 (zI s0) (zL s0) (zA s0 2) o1 n1 f1) sz)) (hA : ∀ q, s.heap.size ≤ q → A q) : ∀ (n : Nat) (f1 : (Nat → Int32)) (v5 : Int32) {H : Heap} {locs : List Loc} (hP : va_P (dC, dI) vwCl (wd_Dealer_dealFrom cy o0 a0 (zI s0) (zL s0) (zA s0 2) o1 n1 f1) H) (hD : va_D A (wd_Dealer_dealFrom cy o0 a0 (zI s0) (zL s0) (zA s0 2) o1 n1 f1)) (hS : va_S A s.heap H locs) (hf : Dealer_dealFrom_h13 N kr s0 n1 v1 v2 v3 n f1 v5 = some y) (ls : Array Slot) (hl : lv_has ls 6 [(0, .ref o0), (1, .int v1), (2, .int v2), (3, .int v3), (4, .ref o1), (5, .int v5)]), W p l e (rm_Dealer_dealFrom (d + 1)) s m args below meth c H locs 0 0 (MQ below (zQi y.1 (dC, dI) cy (wd_Dealer_dealFrom cy o0 a0 (zI s0) (zL s0) (zA s0 2) o1 n1 y.2) A) args s 0 0 A) (F0 m 13 ls []) := by
  intro n
  induction n with
  | zero => intro f1 v5 H locs hP hD hS hf; cases hf
  | succ n ih =>
    intro f1 v5 H locs hP hD hS hf ls hl
    have hf : Dealer_dealFrom_b13 N kr (Dealer_dealFrom_h13 N kr s0 n1 v1 v2 v3 n) s0 n1 f1 v1 v2 v3 v5 = some y := hf
    exact k_Dealer_dealFrom_b13 C0 s0 n1 f1 v1 v2 v3 v5 hkr (fun f1 v5 _ _ hP hD hS hf ls hl => ih f1 v5 hP hD hS hf ls hl) hA hP hD hS hf ls hl
set_option maxHeartbeats 4000000 in
set_option maxRecDepth 100000 in
theorem k_Dealer_dealFrom_b0 {p : Program} {l : Launch} {e : Env} {s : State} {m : MethodId} {args : Array Value} {below : List Frame} {meth : Method} {c : Code} {dC : Nat → ClassId} {dI : Nat → Nat → Nat} {cy : Nat → ClassId} {A : Nat → Prop} {o0 : Nat} {a0 : Nat → Nat} {o1 : Nat} {N : Nat} {d : Nat} {kr : zSt → Nat → (Nat → Int32) → Int32 → Int32 → Int32 → Option (Int32 × (Nat → Int32))} {y : Int32 × (Nat → Int32)} (C0 : zCx p s m args meth c cX2_dealFrom 6 (some .boolean) RX2 (dC, dI) cy) (s0 : zSt) (n1 : Nat) (f1 : Nat → Int32) (v1 : Int32) (v2 : Int32) (v3 : Int32) (hkr : ∀ {sz : Nat} (o0 : Nat) (a0 : Nat → Nat) (s0 : zSt) (o1 n1 : Nat) (f1 : Nat → Int32) (v1 : Int32) (v2 : Int32) (v3 : Int32) {y : Int32 × (Nat → Int32)}, kr s0 n1 f1 v1 v2 v3 = some y → Met l yX2_dealFrom (.code yX2_dealFrom cX2_dealFrom 6 (some .boolean) :: zt) (rm_Dealer_dealFrom d) (va_Pc [.ref o0, .int v1, .int v2, .int v3, .ref o1] (zPre (dC, dI) cy (wd_Dealer_dealFrom cy o0 a0 (zI s0) (zL s0) (zA s0 2) o1 n1 f1) sz)) (zQi y.1 (dC, dI) cy (wd_Dealer_dealFrom cy o0 a0 (zI s0) (zL s0) (zA s0 2) o1 n1 y.2) (va_A (wd_Dealer_dealFrom cy o0 a0 (zI s0) (zL s0) (zA s0 2) o1 n1 f1) sz)) 0 0 (va_A (wd_Dealer_dealFrom cy o0 a0 (zI s0) (zL s0) (zA s0 2) o1 n1 f1) sz)) (hA : ∀ q, s.heap.size ≤ q → A q) {H : Heap} {locs : List Loc} (hP : va_P (dC, dI) vwCl (wd_Dealer_dealFrom cy o0 a0 (zI s0) (zL s0) (zA s0 2) o1 n1 f1) H) (hD : va_D A (wd_Dealer_dealFrom cy o0 a0 (zI s0) (zL s0) (zA s0 2) o1 n1 f1)) (hS : va_S A s.heap H locs) (hf : Dealer_dealFrom_b0 N kr s0 n1 f1 v1 v2 v3 = some y) (ls : Array Slot) (hl : lv_has ls 6 [(0, .ref o0), (1, .int v1), (2, .int v2), (3, .int v3), (4, .ref o1)]) : W p l e (rm_Dealer_dealFrom (d + 1)) s m args below meth c H locs 0 0 (MQ below (zQi y.1 (dC, dI) cy (wd_Dealer_dealFrom cy o0 a0 (zI s0) (zL s0) (zA s0 2) o1 n1 y.2) A) args s 0 0 A) (F0 m 0 ls []) := by
  obtain ⟨hx, hb, hr, hml, hown, hT, hk, hK⟩ := id C0
  refine lv_iload_n hx hb dX2_dealFrom_0 rfl (lv_at hl 1 rfl) ?_
  refine lv_aload_n hx hb dX2_dealFrom_1 rfl (lv_at hl 0 rfl) ?_
  refine zget (v := .int (zI s0 0)) hx hb hown hT hK hP inX2 rfl smX2 0 rfl 0 (by decide) tb_421 rfl dX2_dealFrom_2 ?_
  refine lv_icmp_lt (tgt := 10) hx hb dX2_dealFrom_5 (by decide) (fun hb_1 => ?_) (fun hb_1 => ?_)
  · have hf := zif_t hb_1 hf
    refine lv_iconst (v := 0) hx hb dX2_dealFrom_10 (by decide) ?_
    refine lv_istore (lv' := [(5, .int 0), (0, .ref o0), (1, .int v1), (2, .int v2), (3, .int v3), (4, .ref o1)]) hx hb dX2_dealFrom_11 hl (by decide) rfl (fun ls hl => ?_)
    exact k_Dealer_dealFrom_h13 C0 s0 n1 v1 v2 v3 hkr hA N f1 0 hP hD hS hf _ (lv_sub hl [1, 2, 3, 4, 5, 0] rfl)
  · have hf := zif_f hb_1 hf
    refine lv_iconst (v := 1) hx hb dX2_dealFrom_8 (by decide) ?_
    cases hf
    exact zewz hx hb hr hk (Or.inr rfl) hK hP hD hS dX2_dealFrom_9
set_option maxHeartbeats 4000000 in
set_option maxRecDepth 100000 in
theorem c_Dealer_dealFrom {l : Launch} {dC : Nat → ClassId} {dI : Nat → Nat → Nat} {cy : Nat → ClassId} {N : Nat} : ∀ {d : Nat} {sz : Nat} (o0 : Nat) (a0 : Nat → Nat) (s0 : zSt) (o1 n1 : Nat) (f1 : Nat → Int32) (v1 : Int32) (v2 : Int32) (v3 : Int32) {y : Int32 × (Nat → Int32)} (hf : Dealer_dealFrom N d s0 n1 f1 v1 v2 v3 = some y), Met l yX2_dealFrom (.code yX2_dealFrom cX2_dealFrom 6 (some .boolean) :: zt) (rm_Dealer_dealFrom d) (va_Pc [.ref o0, .int v1, .int v2, .int v3, .ref o1] (zPre (dC, dI) cy (wd_Dealer_dealFrom cy o0 a0 (zI s0) (zL s0) (zA s0 2) o1 n1 f1) sz)) (zQi y.1 (dC, dI) cy (wd_Dealer_dealFrom cy o0 a0 (zI s0) (zL s0) (zA s0 2) o1 n1 y.2) (va_A (wd_Dealer_dealFrom cy o0 a0 (zI s0) (zL s0) (zA s0 2) o1 n1 f1) sz)) 0 0 (va_A (wd_Dealer_dealFrom cy o0 a0 (zI s0) (zL s0) (zA s0 2) o1 n1 f1) sz) := by
  intro d
  induction d with
  | zero => intro sz o0 a0 s0 o1 n1 f1 v1 v2 v3 y hf; cases hf
  | succ d ih =>
    intro sz o0 a0 s0 o1 n1 f1 v1 v2 v3 y hf
    exact zentW (Qw := fun A => (zQi y.1 (dC, dI) cy (wd_Dealer_dealFrom cy o0 a0 (zI s0) (zL s0) (zA s0 2) o1 n1 y.2) A)) (by decide +kernel) (Nat.le_of_ble_eq_true rfl) (fun p e s m below meth c A C0 hA hP hD hS ls hl => k_Dealer_dealFrom_b0 C0 s0 n1 f1 v1 v2 v3 (@fun _ o0 a0 s0 o1 n1 f1 v1 v2 v3 _ h => ih o0 a0 s0 o1 n1 f1 v1 v2 v3 h) hA hP hD hS hf ls hl)
def wd_Dealer_deal (cy : Nat → ClassId) (o0 : Nat) (a0 : Nat → Nat) (g0 : Nat → Int32) (h0 : Nat → Int64) (x0_2 : Nat → Int32) (o1 : Nat) (a1 : Nat → Nat) (g1 : Nat → Int32) (h1 : Nat → Int64) (x1_6 : Nat → Int32) (o2 n2 : Nat) (f2 : Nat → Int32) : va_W := [(o0, .inr (2, fs_Dealer a0 g0 h0)), (a0 2, .inl (cy 0, 8, .inl x0_2)), (o1, .inr (9, fs_Valley a1 g1 h1)), (a1 6, .inl (cy 0, 11, .inl x1_6)), (o2, .inl (cy 0, n2, .inl f2))]
def rm_Dealer_deal : Room := { frames := 16, cells := 0, slots := 0, locals := 416 }
theorem rm_ok_Dealer_deal_Dealer_dealFrom : (rm_Dealer_dealFrom 11).cells = 0 ∧ (rm_Dealer_dealFrom 11).slots = 0 ∧ (rm_Dealer_dealFrom 11).frames + 1 ≤ rm_Dealer_deal.frames ∧ 8 + (6 + 11) + (rm_Dealer_dealFrom 11).locals ≤ rm_Dealer_deal.locals := by decide
theorem rm_ok_Dealer_deal_Valley_isBeast : rm_Valley_isBeast.cells = 0 ∧ rm_Valley_isBeast.slots = 0 ∧ rm_Valley_isBeast.frames + 1 ≤ rm_Dealer_deal.frames ∧ 8 + (2 + 11) + rm_Valley_isBeast.locals ≤ rm_Dealer_deal.locals := by decide
set_option maxHeartbeats 4000000 in
set_option maxRecDepth 100000 in
theorem k_Dealer_deal_b75 {p : Program} {l : Launch} {e : Env} {s : State} {m : MethodId} {args : Array Value} {below : List Frame} {meth : Method} {c : Code} {dC : Nat → ClassId} {dI : Nat → Nat → Nat} {cy : Nat → ClassId} {A : Nat → Prop} {o0 : Nat} {a0 : Nat → Nat} {o1 : Nat} {a1 : Nat → Nat} {o2 : Nat} {N : Nat} {kh75 : zSt → (Nat → Int32) → Int32 → Option (Int32 × zSt × (Nat → Int32))} {y : Int32 × zSt × (Nat → Int32)} (C0 : zCx p s m args meth c cX2_deal 5 (some .int) RX2 (dC, dI) cy) (s0 : zSt) (s1 : zSt) (n2 : Nat) (f2 : Nat → Int32) (v4 : Int32) (hk75 : ∀ (s0 : zSt) (f2 : (Nat → Int32)) (v4 : Int32) {H : Heap} {locs : List Loc} (_ : va_P (dC, dI) vwCl (wd_Dealer_deal cy o0 a0 (zI s0) (zL s0) (zA s0 2) o1 a1 (zI s1) (zL s1) (zA s1 6) o2 n2 f2) H) (_ : va_D A (wd_Dealer_deal cy o0 a0 (zI s0) (zL s0) (zA s0 2) o1 a1 (zI s1) (zL s1) (zA s1 6) o2 n2 f2)) (_ : va_S A s.heap H locs) (_ : kh75 s0 f2 v4 = some y) (ls : Array Slot) (_ : lv_has ls 5 [(0, .ref o0), (3, .ref o2), (4, .int v4)]), W p l e rm_Dealer_deal s m args below meth c H locs 0 0 (MQ below (zQi y.1 (dC, dI) cy (wd_Dealer_deal cy o0 a0 (zI y.2.1) (zL y.2.1) (zA y.2.1 2) o1 a1 (zI s1) (zL s1) (zA s1 6) o2 n2 y.2.2) A) args s 0 0 A) (F0 m 75 ls [])) (hA : ∀ q, s.heap.size ≤ q → A q) {H : Heap} {locs : List Loc} (hP : va_P (dC, dI) vwCl (wd_Dealer_deal cy o0 a0 (zI s0) (zL s0) (zA s0 2) o1 a1 (zI s1) (zL s1) (zA s1 6) o2 n2 f2) H) (hD : va_D A (wd_Dealer_deal cy o0 a0 (zI s0) (zL s0) (zA s0 2) o1 a1 (zI s1) (zL s1) (zA s1 6) o2 n2 f2)) (hS : va_S A s.heap H locs) (hf : Dealer_deal_b75 N kh75 s0 s1 n2 f2 v4 = some y) (ls : Array Slot) (hl : lv_has ls 5 [(0, .ref o0), (3, .ref o2), (4, .int v4)]) : W p l e rm_Dealer_deal s m args below meth c H locs 0 0 (MQ below (zQi y.1 (dC, dI) cy (wd_Dealer_deal cy o0 a0 (zI y.2.1) (zL y.2.1) (zA y.2.1 2) o1 a1 (zI s1) (zL s1) (zA s1 6) o2 n2 y.2.2) A) args s 0 0 A) (F0 m 75 ls []) := by
  obtain ⟨hx, hb, hr, hml, hown, hT, hk, hK⟩ := id C0
  refine lv_iload hx hb dX2_deal_75 (lv_at hl 2 rfl) ?_
  refine lv_aload_n hx hb dX2_deal_77 rfl (lv_at hl 0 rfl) ?_
  refine zget (v := .int (zI s0 0)) hx hb hown hT hK hP inX2 rfl smX2 0 rfl 0 (by decide) tb_421 rfl dX2_deal_78 ?_
  refine lv_icmp_ge (tgt := 105) hx hb dX2_deal_81 (by decide) (fun hb_1 => ?_) (fun hb_1 => ?_)
  · have hf := zif_t hb_1 hf
    refine lv_aload_n hx hb dX2_deal_105 rfl (lv_at hl 0 rfl) ?_
    refine lv_iconst (v := 0) hx hb dX2_deal_106 (by decide) ?_
    refine lv_iconst (v := 0) hx hb dX2_deal_107 (by decide) ?_
    refine lv_aload_n hx hb dX2_deal_108 rfl (lv_at hl 0 rfl) ?_
    refine zget (v := .int (zI s0 0)) hx hb hown hT hK hP inX2 rfl smX2 0 rfl 0 (by decide) tb_421 rfl dX2_deal_109 ?_
    refine lv_aload_n hx hb dX2_deal_112 rfl (lv_at hl 1 rfl) ?_
    obtain ⟨z2, hc3, hf⟩ := zbd_some hf
    refine zwi (wr := [(o1, .inr (9, fs_Valley a1 (zI s1) (zL s1))), (a1 6, .inl (cy 0, 11, .inl (zA s1 6)))]) (ws' := (wd_Dealer_deal cy o0 a0 (zI s0) (zL s0) (zA s0 2) o1 a1 (zI s1) (zL s1) (zA s1 6) o2 n2 z2.2)) (zV (As := [.int 0, .int 0, .int (zI s0 0), .ref o2]) hx hb hml hown hT hl.1 (c_Dealer_dealFrom o0 a0 s0 o2 n2 f2 0 0 (zI s0 0) hc3) zY_Dealer_dealFrom tb_935 (zpRw hK hP hD [0, 1, 4] (by decide) rfl 0 2 rfl rfl rfl rfl) rm_ok_Dealer_deal_Dealer_dealFrom rfl rfl (Nat.le_of_ble_eq_true rfl) dX2_deal_113 ⟨Nat.zero_le _, Nat.zero_le _⟩) hP hD hS hA [0, 1, 4] [2, 3] [2, 3, 0, 1, 4] rfl rfl (by decide) (by decide) (by decide) rfl rfl (fun H locs hP hD hS => ?_)
    refine lv_pop hx hb dX2_deal_116 rfl ?_
    refine lv_aload_n hx hb dX2_deal_117 rfl (lv_at hl 0 rfl) ?_
    refine zget (v := .int (zI s0 0)) hx hb hown hT hK hP inX2 rfl smX2 0 rfl 0 (by decide) tb_421 rfl dX2_deal_118 ?_
    cases hf
    exact zewi hx hb hr hk hK hP hD hS dX2_deal_121
  · have hf := zif_f hb_1 hf
    refine lv_aload_n hx hb dX2_deal_84 rfl (lv_at hl 0 rfl) ?_
    refine lv_iconst (v := 0) hx hb dX2_deal_85 (by decide) ?_
    refine lv_iconst (v := 0) hx hb dX2_deal_86 (by decide) ?_
    refine lv_iload hx hb dX2_deal_87 (lv_at hl 2 rfl) ?_
    refine lv_aload_n hx hb dX2_deal_89 rfl (lv_at hl 1 rfl) ?_
    obtain ⟨z4, hc5, hf⟩ := zbd_some hf
    refine zwi (wr := [(o1, .inr (9, fs_Valley a1 (zI s1) (zL s1))), (a1 6, .inl (cy 0, 11, .inl (zA s1 6)))]) (ws' := (wd_Dealer_deal cy o0 a0 (zI s0) (zL s0) (zA s0 2) o1 a1 (zI s1) (zL s1) (zA s1 6) o2 n2 z4.2)) (zV (As := [.int 0, .int 0, .int v4, .ref o2]) hx hb hml hown hT hl.1 (c_Dealer_dealFrom o0 a0 s0 o2 n2 f2 0 0 v4 hc5) zY_Dealer_dealFrom tb_935 (zpRw hK hP hD [0, 1, 4] (by decide) rfl 0 2 rfl rfl rfl rfl) rm_ok_Dealer_deal_Dealer_dealFrom rfl rfl (Nat.le_of_ble_eq_true rfl) dX2_deal_90 ⟨Nat.zero_le _, Nat.zero_le _⟩) hP hD hS hA [0, 1, 4] [2, 3] [2, 3, 0, 1, 4] rfl rfl (by decide) (by decide) (by decide) rfl rfl (fun H locs hP hD hS => ?_)
    refine lv_if_eq (tgt := 99) hx hb dX2_deal_93 (by decide) (fun hb_6 => ?_) (fun hb_6 => ?_)
    · have hf := zif_t hb_6 hf
      refine lv_iinc (v := v4 + 1) (lv' := [(4, .int (v4 + 1)), (0, .ref o0), (3, .ref o2)]) hx hb dX2_deal_99 hl (k := 2) rfl rfl (by decide) rfl (fun ls hl => ?_)
      refine lv_goto (tgt := 75) hx hb dX2_deal_102 (by decide) ?_
      exact hk75 s0 z4.2 (v4 + 1) hP hD hS hf _ (lv_sub hl [1, 2, 0] rfl)
    · have hf := zif_f hb_6 hf
      refine lv_iload hx hb dX2_deal_96 (lv_at hl 2 rfl) ?_
      cases hf
      exact zewi hx hb hr hk hK hP hD hS dX2_deal_98
set_option maxHeartbeats 4000000 in
set_option maxRecDepth 100000 in
theorem k_Dealer_deal_h75 {p : Program} {l : Launch} {e : Env} {s : State} {m : MethodId} {args : Array Value} {below : List Frame} {meth : Method} {c : Code} {dC : Nat → ClassId} {dI : Nat → Nat → Nat} {cy : Nat → ClassId} {A : Nat → Prop} {o0 : Nat} {a0 : Nat → Nat} {o1 : Nat} {a1 : Nat → Nat} {o2 : Nat} {N : Nat} {y : Int32 × zSt × (Nat → Int32)} (C0 : zCx p s m args meth c cX2_deal 5 (some .int) RX2 (dC, dI) cy) (s1 : zSt) (n2 : Nat) (hA : ∀ q, s.heap.size ≤ q → A q) : ∀ (n : Nat) (s0 : zSt) (f2 : (Nat → Int32)) (v4 : Int32) {H : Heap} {locs : List Loc} (hP : va_P (dC, dI) vwCl (wd_Dealer_deal cy o0 a0 (zI s0) (zL s0) (zA s0 2) o1 a1 (zI s1) (zL s1) (zA s1 6) o2 n2 f2) H) (hD : va_D A (wd_Dealer_deal cy o0 a0 (zI s0) (zL s0) (zA s0 2) o1 a1 (zI s1) (zL s1) (zA s1 6) o2 n2 f2)) (hS : va_S A s.heap H locs) (hf : Dealer_deal_h75 N s1 n2 n s0 f2 v4 = some y) (ls : Array Slot) (hl : lv_has ls 5 [(0, .ref o0), (3, .ref o2), (4, .int v4)]), W p l e rm_Dealer_deal s m args below meth c H locs 0 0 (MQ below (zQi y.1 (dC, dI) cy (wd_Dealer_deal cy o0 a0 (zI y.2.1) (zL y.2.1) (zA y.2.1 2) o1 a1 (zI s1) (zL s1) (zA s1 6) o2 n2 y.2.2) A) args s 0 0 A) (F0 m 75 ls []) := by
  intro n
  induction n with
  | zero => intro s0 f2 v4 H locs hP hD hS hf; cases hf
  | succ n ih =>
    intro s0 f2 v4 H locs hP hD hS hf ls hl
    have hf : Dealer_deal_b75 N (Dealer_deal_h75 N s1 n2 n) s0 s1 n2 f2 v4 = some y := hf
    exact k_Dealer_deal_b75 C0 s0 s1 n2 f2 v4 (fun s0 f2 v4 _ _ hP hD hS hf ls hl => ih s0 f2 v4 hP hD hS hf ls hl) hA hP hD hS hf ls hl
set_option maxHeartbeats 4000000 in
set_option maxRecDepth 100000 in
theorem k_Dealer_deal_b72 {p : Program} {l : Launch} {e : Env} {s : State} {m : MethodId} {args : Array Value} {below : List Frame} {meth : Method} {c : Code} {dC : Nat → ClassId} {dI : Nat → Nat → Nat} {cy : Nat → ClassId} {A : Nat → Prop} {o0 : Nat} {a0 : Nat → Nat} {o1 : Nat} {a1 : Nat → Nat} {o2 : Nat} {N : Nat} {y : Int32 × zSt × (Nat → Int32)} (C0 : zCx p s m args meth c cX2_deal 5 (some .int) RX2 (dC, dI) cy) (s0 : zSt) (s1 : zSt) (n2 : Nat) (f2 : Nat → Int32) (hA : ∀ q, s.heap.size ≤ q → A q) {H : Heap} {locs : List Loc} (hP : va_P (dC, dI) vwCl (wd_Dealer_deal cy o0 a0 (zI s0) (zL s0) (zA s0 2) o1 a1 (zI s1) (zL s1) (zA s1 6) o2 n2 f2) H) (hD : va_D A (wd_Dealer_deal cy o0 a0 (zI s0) (zL s0) (zA s0 2) o1 a1 (zI s1) (zL s1) (zA s1 6) o2 n2 f2)) (hS : va_S A s.heap H locs) (hf : Dealer_deal_b72 N s0 s1 n2 f2 = some y) (ls : Array Slot) (hl : lv_has ls 5 [(0, .ref o0), (3, .ref o2)]) : W p l e rm_Dealer_deal s m args below meth c H locs 0 0 (MQ below (zQi y.1 (dC, dI) cy (wd_Dealer_deal cy o0 a0 (zI y.2.1) (zL y.2.1) (zA y.2.1 2) o1 a1 (zI s1) (zL s1) (zA s1 6) o2 n2 y.2.2) A) args s 0 0 A) (F0 m 72 ls []) := by
  obtain ⟨hx, hb, hr, hml, hown, hT, hk, hK⟩ := id C0
  refine lv_iconst (v := 0) hx hb dX2_deal_72 (by decide) ?_
  refine lv_istore (lv' := [(4, .int 0), (0, .ref o0), (3, .ref o2)]) hx hb dX2_deal_73 hl (by decide) rfl (fun ls hl => ?_)
  exact k_Dealer_deal_h75 C0 s1 n2  hA N s0 f2 0 hP hD hS hf _ (lv_sub hl [1, 2, 0] rfl)
set_option maxHeartbeats 4000000 in
set_option maxRecDepth 100000 in
theorem k_Dealer_deal_b66 {p : Program} {l : Launch} {e : Env} {s : State} {m : MethodId} {args : Array Value} {below : List Frame} {meth : Method} {c : Code} {dC : Nat → ClassId} {dI : Nat → Nat → Nat} {cy : Nat → ClassId} {A : Nat → Prop} {o0 : Nat} {a0 : Nat → Nat} {o1 : Nat} {a1 : Nat → Nat} {o2 : Nat} {N : Nat} {kh13 : zSt → (Nat → Int32) → Int32 → Option (Int32 × zSt × (Nat → Int32))} {y : Int32 × zSt × (Nat → Int32)} (C0 : zCx p s m args meth c cX2_deal 5 (some .int) RX2 (dC, dI) cy) (s0 : zSt) (s1 : zSt) (n2 : Nat) (f2 : Nat → Int32) (v4 : Int32) (hk13 : ∀ (s0 : zSt) (f2 : (Nat → Int32)) (v4 : Int32) {H : Heap} {locs : List Loc} (_ : va_P (dC, dI) vwCl (wd_Dealer_deal cy o0 a0 (zI s0) (zL s0) (zA s0 2) o1 a1 (zI s1) (zL s1) (zA s1 6) o2 n2 f2) H) (_ : va_D A (wd_Dealer_deal cy o0 a0 (zI s0) (zL s0) (zA s0 2) o1 a1 (zI s1) (zL s1) (zA s1 6) o2 n2 f2)) (_ : va_S A s.heap H locs) (_ : kh13 s0 f2 v4 = some y) (ls : Array Slot) (_ : lv_has ls 5 [(0, .ref o0), (1, .ref o1), (3, .ref o2), (4, .int v4)]), W p l e rm_Dealer_deal s m args below meth c H locs 0 0 (MQ below (zQi y.1 (dC, dI) cy (wd_Dealer_deal cy o0 a0 (zI y.2.1) (zL y.2.1) (zA y.2.1 2) o1 a1 (zI s1) (zL s1) (zA s1 6) o2 n2 y.2.2) A) args s 0 0 A) (F0 m 13 ls [])) (hA : ∀ q, s.heap.size ≤ q → A q) {H : Heap} {locs : List Loc} (hP : va_P (dC, dI) vwCl (wd_Dealer_deal cy o0 a0 (zI s0) (zL s0) (zA s0 2) o1 a1 (zI s1) (zL s1) (zA s1 6) o2 n2 f2) H) (hD : va_D A (wd_Dealer_deal cy o0 a0 (zI s0) (zL s0) (zA s0 2) o1 a1 (zI s1) (zL s1) (zA s1 6) o2 n2 f2)) (hS : va_S A s.heap H locs) (hf : Dealer_deal_b66 N kh13 s0 s1 n2 f2 v4 = some y) (ls : Array Slot) (hl : lv_has ls 5 [(0, .ref o0), (1, .ref o1), (3, .ref o2), (4, .int v4)]) : W p l e rm_Dealer_deal s m args below meth c H locs 0 0 (MQ below (zQi y.1 (dC, dI) cy (wd_Dealer_deal cy o0 a0 (zI y.2.1) (zL y.2.1) (zA y.2.1 2) o1 a1 (zI s1) (zL s1) (zA s1 6) o2 n2 y.2.2) A) args s 0 0 A) (F0 m 66 ls []) := by
  obtain ⟨hx, hb, hr, hml, hown, hT, hk, hK⟩ := id C0
  refine lv_iinc (v := v4 + 1) (lv' := [(4, .int (v4 + 1)), (0, .ref o0), (1, .ref o1), (3, .ref o2)]) hx hb dX2_deal_66 hl (k := 3) rfl rfl (by decide) rfl (fun ls hl => ?_)
  refine lv_goto (tgt := 13) hx hb dX2_deal_69 (by decide) ?_
  exact hk13 s0 f2 (v4 + 1) hP hD hS hf _ (lv_sub hl [1, 2, 3, 0] rfl)
set_option maxHeartbeats 4000000 in
set_option maxRecDepth 100000 in
theorem k_Dealer_deal_b13 {p : Program} {l : Launch} {e : Env} {s : State} {m : MethodId} {args : Array Value} {below : List Frame} {meth : Method} {c : Code} {dC : Nat → ClassId} {dI : Nat → Nat → Nat} {cy : Nat → ClassId} {A : Nat → Prop} {o0 : Nat} {a0 : Nat → Nat} {o1 : Nat} {a1 : Nat → Nat} {o2 : Nat} {N : Nat} {kh13 : zSt → (Nat → Int32) → Int32 → Option (Int32 × zSt × (Nat → Int32))} {y : Int32 × zSt × (Nat → Int32)} (C0 : zCx p s m args meth c cX2_deal 5 (some .int) RX2 (dC, dI) cy) (s0 : zSt) (s1 : zSt) (n2 : Nat) (f2 : Nat → Int32) (v4 : Int32) (hk13 : ∀ (s0 : zSt) (f2 : (Nat → Int32)) (v4 : Int32) {H : Heap} {locs : List Loc} (_ : va_P (dC, dI) vwCl (wd_Dealer_deal cy o0 a0 (zI s0) (zL s0) (zA s0 2) o1 a1 (zI s1) (zL s1) (zA s1 6) o2 n2 f2) H) (_ : va_D A (wd_Dealer_deal cy o0 a0 (zI s0) (zL s0) (zA s0 2) o1 a1 (zI s1) (zL s1) (zA s1 6) o2 n2 f2)) (_ : va_S A s.heap H locs) (_ : kh13 s0 f2 v4 = some y) (ls : Array Slot) (_ : lv_has ls 5 [(0, .ref o0), (1, .ref o1), (3, .ref o2), (4, .int v4)]), W p l e rm_Dealer_deal s m args below meth c H locs 0 0 (MQ below (zQi y.1 (dC, dI) cy (wd_Dealer_deal cy o0 a0 (zI y.2.1) (zL y.2.1) (zA y.2.1 2) o1 a1 (zI s1) (zL s1) (zA s1 6) o2 n2 y.2.2) A) args s 0 0 A) (F0 m 13 ls [])) (hA : ∀ q, s.heap.size ≤ q → A q) {H : Heap} {locs : List Loc} (hP : va_P (dC, dI) vwCl (wd_Dealer_deal cy o0 a0 (zI s0) (zL s0) (zA s0 2) o1 a1 (zI s1) (zL s1) (zA s1 6) o2 n2 f2) H) (hD : va_D A (wd_Dealer_deal cy o0 a0 (zI s0) (zL s0) (zA s0 2) o1 a1 (zI s1) (zL s1) (zA s1 6) o2 n2 f2)) (hS : va_S A s.heap H locs) (hf : Dealer_deal_b13 N kh13 s0 s1 n2 f2 v4 = some y) (ls : Array Slot) (hl : lv_has ls 5 [(0, .ref o0), (1, .ref o1), (3, .ref o2), (4, .int v4)]) : W p l e rm_Dealer_deal s m args below meth c H locs 0 0 (MQ below (zQi y.1 (dC, dI) cy (wd_Dealer_deal cy o0 a0 (zI y.2.1) (zL y.2.1) (zA y.2.1 2) o1 a1 (zI s1) (zL s1) (zA s1 6) o2 n2 y.2.2) A) args s 0 0 A) (F0 m 13 ls []) := by
  obtain ⟨hx, hb, hr, hml, hown, hT, hk, hK⟩ := id C0
  refine lv_iload hx hb dX2_deal_13 (lv_at hl 3 rfl) ?_
  refine lv_aload_n hx hb dX2_deal_15 rfl (lv_at hl 1 rfl) ?_
  refine zget (v := .int (zI s1 3)) hx hb hown hT hK hP inX9 rfl smX9 2 rfl 3 (by decide) tb_103 rfl dX2_deal_16 ?_
  refine lv_icmp_ge (tgt := 72) hx hb dX2_deal_19 (by decide) (fun hb_1 => ?_) (fun hb_1 => ?_)
  · have hf := zif_t hb_1 hf
    exact k_Dealer_deal_b72 C0 s0 s1 n2 f2  hA hP hD hS hf _ (lv_sub hl [0, 2] rfl)
  · have hf := zif_f hb_1 hf
    refine lv_aload_n hx hb dX2_deal_22 rfl (lv_at hl 0 rfl) ?_
    refine zget (v := .int (zI s0 0)) hx hb hown hT hK hP inX2 rfl smX2 0 rfl 0 (by decide) tb_421 rfl dX2_deal_23 ?_
    refine lv_bipush (v := 8) hx hb dX2_deal_26 (by decide) ?_
    refine lv_icmp_ge (tgt := 72) hx hb dX2_deal_28 (by decide) (fun hb_2 => ?_) (fun hb_2 => ?_)
    · have hf := zif_t hb_2 hf
      exact k_Dealer_deal_b72 C0 s0 s1 n2 f2  hA hP hD hS hf _ (lv_sub hl [0, 2] rfl)
    · have hf := zif_f hb_2 hf
      refine lv_aload_n hx hb dX2_deal_31 rfl (lv_at hl 1 rfl) ?_
      refine lv_iload hx hb dX2_deal_32 (lv_at hl 3 rfl) ?_
      obtain ⟨z3, hc4, hf⟩ := zbd_some hf
      refine zri (zV (As := [.int v4]) hx hb hml hown hT hl.1 (c_Valley_isBeast o1 a1 s1 v4 hc4) zY_Valley_isBeast tb_934 (zpR hK hP [2] rfl 0 9 rfl rfl rfl) rm_ok_Dealer_deal_Valley_isBeast rfl rfl (Nat.le_of_ble_eq_true rfl) dX2_deal_34 ⟨Nat.zero_le _, Nat.zero_le _⟩) ?_
      refine lv_if_eq (tgt := 66) hx hb dX2_deal_37 (by decide) (fun hb_5 => ?_) (fun hb_5 => ?_)
      · have hf := zif_t hb_5 hf
        exact k_Dealer_deal_b66 C0 s0 s1 n2 f2 v4 hk13 hA hP hD hS hf _ (lv_sub hl [0, 1, 2, 3] rfl)
      · have hf := zif_f hb_5 hf
        refine lv_aload_n hx hb dX2_deal_40 rfl (lv_at hl 0 rfl) ?_
        refine zget (v := .ref (a0 2)) hx hb hown hT hK hP inX2 rfl smX2 0 rfl 2 (by decide) tb_423 rfl dX2_deal_41 ?_
        refine lv_aload_n hx hb dX2_deal_44 rfl (lv_at hl 0 rfl) ?_
        refine zget (v := .int (zI s0 0)) hx hb hown hT hK hP inX2 rfl smX2 0 rfl 0 (by decide) tb_421 rfl dX2_deal_45 ?_
        refine lv_aload_n hx hb dX2_deal_48 rfl (lv_at hl 1 rfl) ?_
        refine zget (v := .ref (a1 6)) hx hb hown hT hK hP inX9 rfl smX9 2 rfl 6 (by decide) tb_115 rfl dX2_deal_49 ?_
        refine lv_iload hx hb dX2_deal_52 (lv_at hl 3 rfl) ?_
        obtain ⟨hi6, hf⟩ := zck_some hf
        refine va_iald hx hb hK.1 hP 3 0 rfl rfl hi6 dX2_deal_54 ?_
        obtain ⟨hi7, hf⟩ := zck_some hf
        refine zast (ws' := (wd_Dealer_deal cy o0 a0 (zI s0) (zL s0) (upd (zA s0 2) (Int32.toNatClampNeg (zI s0 0)) ((zA s1 6) (Int32.toNatClampNeg v4))) o1 a1 (zI s1) (zL s1) (zA s1 6) o2 n2 f2)) hx hb hK hP hD hS 1 0 rfl rfl hi7 rfl dX2_deal_55 (fun H locs hP hD hS => ?_)
        refine lv_aload_n hx hb dX2_deal_56 rfl (lv_at hl 0 rfl) ?_
        refine lv_dup hx hb dX2_deal_57 rfl ?_
        refine zget (v := .int (zI s0 0)) hx hb hown hT hK hP inX2 rfl smX2 0 rfl 0 (by decide) tb_421 rfl dX2_deal_58 ?_
        refine lv_iconst (v := 1) hx hb dX2_deal_61 (by decide) ?_
        refine lv_iadd hx hb dX2_deal_62 ?_
        refine zput (fs' := fs_Dealer a0 (upd (zI s0) 0 ((zI s0 0) + 1)) (zL s0)) (ws' := (wd_Dealer_deal cy o0 a0 (upd (zI s0) 0 ((zI s0 0) + 1)) (zL s0) (upd (zA s0 2) (Int32.toNatClampNeg (zI s0 0)) ((zA s1 6) (Int32.toNatClampNeg v4))) o1 a1 (zI s1) (zL s1) (zA s1 6) o2 n2 f2)) hx hb hown hT hK hP hD hS inX2 rfl smX2 tyX2_ok nmX2 0 rfl 0 (by decide) tb_421 rfl rfl rfl (Nat.le_of_ble_eq_true rfl) rfl rfl dX2_deal_63 (fun H locs hP hD hS => ?_)
        exact k_Dealer_deal_b66 C0 (zpI (zsA s0 2 (upd (zA s0 2) (Int32.toNatClampNeg (zI s0 0)) ((zA s1 6) (Int32.toNatClampNeg v4)))) 0 ((zI s0 0) + 1)) s1 n2 f2 v4 hk13 hA hP hD hS hf _ (lv_sub hl [0, 1, 2, 3] rfl)
set_option maxHeartbeats 4000000 in
set_option maxRecDepth 100000 in
theorem k_Dealer_deal_h13 {p : Program} {l : Launch} {e : Env} {s : State} {m : MethodId} {args : Array Value} {below : List Frame} {meth : Method} {c : Code} {dC : Nat → ClassId} {dI : Nat → Nat → Nat} {cy : Nat → ClassId} {A : Nat → Prop} {o0 : Nat} {a0 : Nat → Nat} {o1 : Nat} {a1 : Nat → Nat} {o2 : Nat} {N : Nat} {y : Int32 × zSt × (Nat → Int32)} (C0 : zCx p s m args meth c cX2_deal 5 (some .int) RX2 (dC, dI) cy) (s1 : zSt) (n2 : Nat) (hA : ∀ q, s.heap.size ≤ q → A q) : ∀ (n : Nat) (s0 : zSt) (f2 : (Nat → Int32)) (v4 : Int32) {H : Heap} {locs : List Loc} (hP : va_P (dC, dI) vwCl (wd_Dealer_deal cy o0 a0 (zI s0) (zL s0) (zA s0 2) o1 a1 (zI s1) (zL s1) (zA s1 6) o2 n2 f2) H) (hD : va_D A (wd_Dealer_deal cy o0 a0 (zI s0) (zL s0) (zA s0 2) o1 a1 (zI s1) (zL s1) (zA s1 6) o2 n2 f2)) (hS : va_S A s.heap H locs) (hf : Dealer_deal_h13 N s1 n2 n s0 f2 v4 = some y) (ls : Array Slot) (hl : lv_has ls 5 [(0, .ref o0), (1, .ref o1), (3, .ref o2), (4, .int v4)]), W p l e rm_Dealer_deal s m args below meth c H locs 0 0 (MQ below (zQi y.1 (dC, dI) cy (wd_Dealer_deal cy o0 a0 (zI y.2.1) (zL y.2.1) (zA y.2.1 2) o1 a1 (zI s1) (zL s1) (zA s1 6) o2 n2 y.2.2) A) args s 0 0 A) (F0 m 13 ls []) := by
  intro n
  induction n with
  | zero => intro s0 f2 v4 H locs hP hD hS hf; cases hf
  | succ n ih =>
    intro s0 f2 v4 H locs hP hD hS hf ls hl
    have hf : Dealer_deal_b13 N (Dealer_deal_h13 N s1 n2 n) s0 s1 n2 f2 v4 = some y := hf
    exact k_Dealer_deal_b13 C0 s0 s1 n2 f2 v4 (fun s0 f2 v4 _ _ hP hD hS hf ls hl => ih s0 f2 v4 hP hD hS hf ls hl) hA hP hD hS hf ls hl
set_option maxHeartbeats 4000000 in
set_option maxRecDepth 100000 in
theorem k_Dealer_deal_b0 {p : Program} {l : Launch} {e : Env} {s : State} {m : MethodId} {args : Array Value} {below : List Frame} {meth : Method} {c : Code} {dC : Nat → ClassId} {dI : Nat → Nat → Nat} {cy : Nat → ClassId} {A : Nat → Prop} {o0 : Nat} {a0 : Nat → Nat} {o1 : Nat} {a1 : Nat → Nat} {o2 : Nat} {N : Nat} {y : Int32 × zSt × (Nat → Int32)} (C0 : zCx p s m args meth c cX2_deal 5 (some .int) RX2 (dC, dI) cy) (s0 : zSt) (s1 : zSt) (n2 : Nat) (f2 : Nat → Int32) (v2 : Int32) (hA : ∀ q, s.heap.size ≤ q → A q) {H : Heap} {locs : List Loc} (hP : va_P (dC, dI) vwCl (wd_Dealer_deal cy o0 a0 (zI s0) (zL s0) (zA s0 2) o1 a1 (zI s1) (zL s1) (zA s1 6) o2 n2 f2) H) (hD : va_D A (wd_Dealer_deal cy o0 a0 (zI s0) (zL s0) (zA s0 2) o1 a1 (zI s1) (zL s1) (zA s1 6) o2 n2 f2)) (hS : va_S A s.heap H locs) (hf : Dealer_deal_b0 N s0 s1 n2 f2 v2 = some y) (ls : Array Slot) (hl : lv_has ls 5 [(0, .ref o0), (1, .ref o1), (2, .int v2), (3, .ref o2)]) : W p l e rm_Dealer_deal s m args below meth c H locs 0 0 (MQ below (zQi y.1 (dC, dI) cy (wd_Dealer_deal cy o0 a0 (zI y.2.1) (zL y.2.1) (zA y.2.1 2) o1 a1 (zI s1) (zL s1) (zA s1 6) o2 n2 y.2.2) A) args s 0 0 A) (F0 m 0 ls []) := by
  obtain ⟨hx, hb, hr, hml, hown, hT, hk, hK⟩ := id C0
  refine lv_aload_n hx hb dX2_deal_0 rfl (lv_at hl 0 rfl) ?_
  refine lv_iload_n hx hb dX2_deal_1 rfl (lv_at hl 2 rfl) ?_
  refine zput (fs' := fs_Dealer a0 (upd (zI s0) 1 v2) (zL s0)) (ws' := (wd_Dealer_deal cy o0 a0 (upd (zI s0) 1 v2) (zL s0) (zA s0 2) o1 a1 (zI s1) (zL s1) (zA s1 6) o2 n2 f2)) hx hb hown hT hK hP hD hS inX2 rfl smX2 tyX2_ok nmX2 0 rfl 1 (by decide) tb_422 rfl rfl rfl (Nat.le_of_ble_eq_true rfl) rfl rfl dX2_deal_2 (fun H locs hP hD hS => ?_)
  refine lv_aload_n hx hb dX2_deal_5 rfl (lv_at hl 0 rfl) ?_
  refine lv_iconst (v := 0) hx hb dX2_deal_6 (by decide) ?_
  refine zput (fs' := fs_Dealer a0 (upd (upd (zI s0) 1 v2) 0 0) (zL s0)) (ws' := (wd_Dealer_deal cy o0 a0 (upd (upd (zI s0) 1 v2) 0 0) (zL s0) (zA s0 2) o1 a1 (zI s1) (zL s1) (zA s1 6) o2 n2 f2)) hx hb hown hT hK hP hD hS inX2 rfl smX2 tyX2_ok nmX2 0 rfl 0 (by decide) tb_421 rfl rfl rfl (Nat.le_of_ble_eq_true rfl) rfl rfl dX2_deal_7 (fun H locs hP hD hS => ?_)
  refine lv_iconst (v := 0) hx hb dX2_deal_10 (by decide) ?_
  refine lv_istore (lv' := [(4, .int 0), (0, .ref o0), (1, .ref o1), (2, .int v2), (3, .ref o2)]) hx hb dX2_deal_11 hl (by decide) rfl (fun ls hl => ?_)
  exact k_Dealer_deal_h13 C0 s1 n2  hA N (zpI (zpI s0 1 v2) 0 0) f2 0 hP hD hS hf _ (lv_sub hl [1, 2, 4, 0] rfl)
set_option maxHeartbeats 4000000 in
set_option maxRecDepth 100000 in
theorem c_Dealer_deal {l : Launch} {dC : Nat → ClassId} {dI : Nat → Nat → Nat} {cy : Nat → ClassId} {sz : Nat} {N : Nat} (o0 : Nat) (a0 : Nat → Nat) (s0 : zSt) (o1 : Nat) (a1 : Nat → Nat) (s1 : zSt) (o2 n2 : Nat) (f2 : Nat → Int32) (v2 : Int32) {y : Int32 × zSt × (Nat → Int32)} (hf : Dealer_deal N s0 s1 n2 f2 v2 = some y) : Met l yX2_deal (.code yX2_deal cX2_deal 5 (some .int) :: zt) rm_Dealer_deal (va_Pc [.ref o0, .ref o1, .int v2, .ref o2] (zPre (dC, dI) cy (wd_Dealer_deal cy o0 a0 (zI s0) (zL s0) (zA s0 2) o1 a1 (zI s1) (zL s1) (zA s1 6) o2 n2 f2) sz)) (zQi y.1 (dC, dI) cy (wd_Dealer_deal cy o0 a0 (zI y.2.1) (zL y.2.1) (zA y.2.1 2) o1 a1 (zI s1) (zL s1) (zA s1 6) o2 n2 y.2.2) (va_A (wd_Dealer_deal cy o0 a0 (zI s0) (zL s0) (zA s0 2) o1 a1 (zI s1) (zL s1) (zA s1 6) o2 n2 f2) sz)) 0 0 (va_A (wd_Dealer_deal cy o0 a0 (zI s0) (zL s0) (zA s0 2) o1 a1 (zI s1) (zL s1) (zA s1 6) o2 n2 f2) sz) :=
  zentW (Qw := fun A => (zQi y.1 (dC, dI) cy (wd_Dealer_deal cy o0 a0 (zI y.2.1) (zL y.2.1) (zA y.2.1 2) o1 a1 (zI s1) (zL s1) (zA s1 6) o2 n2 y.2.2) A)) (by decide +kernel) (Nat.le_of_ble_eq_true rfl) (fun p e s m below meth c A C0 hA hP hD hS ls hl => k_Dealer_deal_b0 C0 s0 s1 n2 f2 v2 hA hP hD hS hf ls hl)
def wd_Earnest_begin (cy : Nat → ClassId) (o0 : Nat) (a0 : Nat → Nat) (g0 : Nat → Int32) (h0 : Nat → Int64) (x0_5 : Nat → Int32) (o1 : Nat) (a1 : Nat → Nat) (g1 : Nat → Int32) (h1 : Nat → Int64) : va_W := [(o0, .inr (3, fs_Earnest a0 g0 h0)), (a0 5, .inl (cy 0, 11, .inl x0_5)), (o1, .inr (9, fs_Valley a1 g1 h1))]
def rm_Earnest_begin : Room := { frames := 2, cells := 0, slots := 0, locals := 63 }
theorem rm_ok_Earnest_begin_Arrays_fill : rm_Arrays_fill.cells = 0 ∧ rm_Arrays_fill.slots = 0 ∧ rm_Arrays_fill.frames + 1 ≤ rm_Earnest_begin.frames ∧ 8 + (4 + 11) + rm_Arrays_fill.locals ≤ rm_Earnest_begin.locals := by decide
set_option maxHeartbeats 4000000 in
set_option maxRecDepth 100000 in
theorem k_Earnest_begin_b0 {p : Program} {l : Launch} {e : Env} {s : State} {m : MethodId} {args : Array Value} {below : List Frame} {meth : Method} {c : Code} {dC : Nat → ClassId} {dI : Nat → Nat → Nat} {cy : Nat → ClassId} {A : Nat → Prop} {o0 : Nat} {a0 : Nat → Nat} {o1 : Nat} {a1 : Nat → Nat} {N : Nat} {y : zSt} (C0 : zCx p s m args meth c cX3_begin 2 none RX3 (dC, dI) cy) (s0 : zSt) (s1 : zSt) (hA : ∀ q, s.heap.size ≤ q → A q) {H : Heap} {locs : List Loc} (hP : va_P (dC, dI) vwCl (wd_Earnest_begin cy o0 a0 (zI s0) (zL s0) (zA s0 5) o1 a1 (zI s1) (zL s1)) H) (hD : va_D A (wd_Earnest_begin cy o0 a0 (zI s0) (zL s0) (zA s0 5) o1 a1 (zI s1) (zL s1))) (hS : va_S A s.heap H locs) (hf : Earnest_begin_b0 N s0 s1 = some y) (ls : Array Slot) (hl : lv_has ls 2 [(0, .ref o0), (1, .ref o1)]) : W p l e rm_Earnest_begin s m args below meth c H locs 0 0 (MQ below (zQv (dC, dI) cy (wd_Earnest_begin cy o0 a0 (zI y) (zL y) (zA y 5) o1 a1 (zI s1) (zL s1)) A) args s 0 0 A) (F0 m 0 ls []) := by
  obtain ⟨hx, hb, hr, hml, hown, hT, hk, hK⟩ := id C0
  refine lv_aload_n hx hb dX3_begin_0 rfl (lv_at hl 0 rfl) ?_
  refine lv_aload_n hx hb dX3_begin_1 rfl (lv_at hl 1 rfl) ?_
  refine zget (v := .int (zI s1 8)) hx hb hown hT hK hP inX9 rfl smX9 2 rfl 8 (by decide) tb_119 rfl dX3_begin_2 ?_
  refine zput (fs' := fs_Earnest a0 (upd (zI s0) 0 (zI s1 8)) (zL s0)) (ws' := (wd_Earnest_begin cy o0 a0 (upd (zI s0) 0 (zI s1 8)) (zL s0) (zA s0 5) o1 a1 (zI s1) (zL s1))) hx hb hown hT hK hP hD hS inX3 rfl smX3 tyX3_ok nmX3 0 rfl 0 (by decide) tb_173 rfl rfl rfl (Nat.le_of_ble_eq_true rfl) rfl rfl dX3_begin_5 (fun H locs hP hD hS => ?_)
  refine lv_aload_n hx hb dX3_begin_8 rfl (lv_at hl 0 rfl) ?_
  refine lv_iconst (v := 0) hx hb dX3_begin_9 (by decide) ?_
  refine zput (fs' := fs_Earnest a0 (upd (upd (zI s0) 0 (zI s1 8)) 1 0) (zL s0)) (ws' := (wd_Earnest_begin cy o0 a0 (upd (upd (zI s0) 0 (zI s1 8)) 1 0) (zL s0) (zA s0 5) o1 a1 (zI s1) (zL s1))) hx hb hown hT hK hP hD hS inX3 rfl smX3 tyX3_ok nmX3 0 rfl 1 (by decide) tb_175 rfl rfl rfl (Nat.le_of_ble_eq_true rfl) rfl rfl dX3_begin_10 (fun H locs hP hD hS => ?_)
  refine lv_aload_n hx hb dX3_begin_13 rfl (lv_at hl 0 rfl) ?_
  refine lv_iconst (v := 0) hx hb dX3_begin_14 (by decide) ?_
  refine zput (fs' := fs_Earnest a0 (upd (upd (upd (zI s0) 0 (zI s1 8)) 1 0) 2 0) (zL s0)) (ws' := (wd_Earnest_begin cy o0 a0 (upd (upd (upd (zI s0) 0 (zI s1 8)) 1 0) 2 0) (zL s0) (zA s0 5) o1 a1 (zI s1) (zL s1))) hx hb hown hT hK hP hD hS inX3 rfl smX3 tyX3_ok nmX3 0 rfl 2 (by decide) tb_177 rfl rfl rfl (Nat.le_of_ble_eq_true rfl) rfl rfl dX3_begin_15 (fun H locs hP hD hS => ?_)
  refine lv_aload_n hx hb dX3_begin_18 rfl (lv_at hl 0 rfl) ?_
  refine lv_iconst (v := 0) hx hb dX3_begin_19 (by decide) ?_
  refine zput (fs' := fs_Earnest a0 (upd (upd (upd (upd (zI s0) 0 (zI s1 8)) 1 0) 2 0) 3 0) (zL s0)) (ws' := (wd_Earnest_begin cy o0 a0 (upd (upd (upd (upd (zI s0) 0 (zI s1 8)) 1 0) 2 0) 3 0) (zL s0) (zA s0 5) o1 a1 (zI s1) (zL s1))) hx hb hown hT hK hP hD hS inX3 rfl smX3 tyX3_ok nmX3 0 rfl 3 (by decide) tb_179 rfl rfl rfl (Nat.le_of_ble_eq_true rfl) rfl rfl dX3_begin_20 (fun H locs hP hD hS => ?_)
  refine lv_aload_n hx hb dX3_begin_23 rfl (lv_at hl 0 rfl) ?_
  refine lv_iconst (v := 0) hx hb dX3_begin_24 (by decide) ?_
  refine zput (fs' := fs_Earnest a0 (upd (upd (upd (upd (upd (zI s0) 0 (zI s1 8)) 1 0) 2 0) 3 0) 4 0) (zL s0)) (ws' := (wd_Earnest_begin cy o0 a0 (upd (upd (upd (upd (upd (zI s0) 0 (zI s1 8)) 1 0) 2 0) 3 0) 4 0) (zL s0) (zA s0 5) o1 a1 (zI s1) (zL s1))) hx hb hown hT hK hP hD hS inX3 rfl smX3 tyX3_ok nmX3 0 rfl 4 (by decide) tb_181 rfl rfl rfl (Nat.le_of_ble_eq_true rfl) rfl rfl dX3_begin_25 (fun H locs hP hD hS => ?_)
  refine lv_aload_n hx hb dX3_begin_28 rfl (lv_at hl 0 rfl) ?_
  refine zget (v := .ref (a0 5)) hx hb hown hT hK hP inX3 rfl smX3 0 rfl 5 (by decide) tb_183 rfl dX3_begin_29 ?_
  refine lv_iconst (v := 0) hx hb dX3_begin_32 (by decide) ?_
  obtain ⟨z1, hc2, hf⟩ := zbd_some hf
  refine zwv (wr := [(o0, .inr (3, fs_Earnest a0 (upd (upd (upd (upd (upd (zI s0) 0 (zI s1 8)) 1 0) 2 0) 3 0) 4 0) (zL s0))), (o1, .inr (9, fs_Valley a1 (zI s1) (zL s1)))]) (ws' := (wd_Earnest_begin cy o0 a0 (upd (upd (upd (upd (upd (zI s0) 0 (zI s1 8)) 1 0) 2 0) 3 0) 4 0) (zL s0) z1 o1 a1 (zI s1) (zL s1))) (zS (As := [.ref (a0 5), .int 0]) hx hb hml hown hT hl.1 (c_Arrays_fill (a0 5) 11 (zA s0 5) 0 hc2) zY_Arrays_fill tb_641 (zpSw hK hP hD [1] (by decide) rfl rfl) rm_ok_Earnest_begin_Arrays_fill rfl rfl (Nat.le_of_ble_eq_true rfl) dX3_begin_33 ⟨Nat.zero_le _, Nat.zero_le _⟩) hP hD hS hA [1] [0, 2] [0, 2, 1] rfl rfl (by decide) (by decide) (by decide) rfl rfl (fun H locs hP hD hS => ?_)
  cases hf
  exact zewv hx hb hr hk hK hP hD hS dX3_begin_36
set_option maxHeartbeats 4000000 in
set_option maxRecDepth 100000 in
theorem c_Earnest_begin {l : Launch} {dC : Nat → ClassId} {dI : Nat → Nat → Nat} {cy : Nat → ClassId} {sz : Nat} {N : Nat} (o0 : Nat) (a0 : Nat → Nat) (s0 : zSt) (o1 : Nat) (a1 : Nat → Nat) (s1 : zSt) {y : zSt} (hf : Earnest_begin N s0 s1 = some y) : Met l yX3_begin (.code yX3_begin cX3_begin 2 none :: zt) rm_Earnest_begin (va_Pc [.ref o0, .ref o1] (zPre (dC, dI) cy (wd_Earnest_begin cy o0 a0 (zI s0) (zL s0) (zA s0 5) o1 a1 (zI s1) (zL s1)) sz)) (zQv (dC, dI) cy (wd_Earnest_begin cy o0 a0 (zI y) (zL y) (zA y 5) o1 a1 (zI s1) (zL s1)) (va_A (wd_Earnest_begin cy o0 a0 (zI s0) (zL s0) (zA s0 5) o1 a1 (zI s1) (zL s1)) sz)) 0 0 (va_A (wd_Earnest_begin cy o0 a0 (zI s0) (zL s0) (zA s0 5) o1 a1 (zI s1) (zL s1)) sz) :=
  zentW (Qw := fun A => (zQv (dC, dI) cy (wd_Earnest_begin cy o0 a0 (zI y) (zL y) (zA y 5) o1 a1 (zI s1) (zL s1)) A)) (by decide +kernel) (Nat.le_of_ble_eq_true rfl) (fun p e s m below meth c A C0 hA hP hD hS ls hl => k_Earnest_begin_b0 C0 s0 s1 hA hP hD hS hf ls hl)
def wd_Earnest_copy (cy : Nat → ClassId) (o0 : Nat) (a0 : Nat → Nat) (g0 : Nat → Int32) (h0 : Nat → Int64) (x0_5 : Nat → Int32) (o1 : Nat) (a1 : Nat → Nat) (g1 : Nat → Int32) (h1 : Nat → Int64) (x1_5 : Nat → Int32) : va_W := [(o0, .inr (3, fs_Earnest a0 g0 h0)), (a0 5, .inl (cy 0, 11, .inl x0_5)), (o1, .inr (3, fs_Earnest a1 g1 h1)), (a1 5, .inl (cy 0, 11, .inl x1_5))]
def rm_Earnest_copy : Room := { frames := 1, cells := 0, slots := 0, locals := 40 }
set_option maxHeartbeats 4000000 in
set_option maxRecDepth 100000 in
theorem k_Earnest_copy_b0 {p : Program} {l : Launch} {e : Env} {s : State} {m : MethodId} {args : Array Value} {below : List Frame} {meth : Method} {c : Code} {dC : Nat → ClassId} {dI : Nat → Nat → Nat} {cy : Nat → ClassId} {A : Nat → Prop} {o0 : Nat} {a0 : Nat → Nat} {o1 : Nat} {a1 : Nat → Nat} {N : Nat} {y : zSt} (C0 : zCx p s m args meth c cX3_copy 2 none RX3 (dC, dI) cy) (s0 : zSt) (s1 : zSt) (hA : ∀ q, s.heap.size ≤ q → A q) {H : Heap} {locs : List Loc} (hP : va_P (dC, dI) vwCl (wd_Earnest_copy cy o0 a0 (zI s0) (zL s0) (zA s0 5) o1 a1 (zI s1) (zL s1) (zA s1 5)) H) (hD : va_D A (wd_Earnest_copy cy o0 a0 (zI s0) (zL s0) (zA s0 5) o1 a1 (zI s1) (zL s1) (zA s1 5))) (hS : va_S A s.heap H locs) (hf : Earnest_copy_b0 N s0 s1 = some y) (ls : Array Slot) (hl : lv_has ls 2 [(0, .ref o0), (1, .ref o1)]) : W p l e rm_Earnest_copy s m args below meth c H locs 0 0 (MQ below (zQv (dC, dI) cy (wd_Earnest_copy cy o0 a0 (zI y) (zL y) (zA y 5) o1 a1 (zI s1) (zL s1) (zA s1 5)) A) args s 0 0 A) (F0 m 0 ls []) := by
  obtain ⟨hx, hb, hr, hml, hown, hT, hk, hK⟩ := id C0
  refine lv_aload_n hx hb dX3_copy_0 rfl (lv_at hl 0 rfl) ?_
  refine lv_aload_n hx hb dX3_copy_1 rfl (lv_at hl 1 rfl) ?_
  refine zget (v := .int (zI s1 0)) hx hb hown hT hK hP inX3 rfl smX3 2 rfl 0 (by decide) tb_173 rfl dX3_copy_2 ?_
  refine zput (fs' := fs_Earnest a0 (upd (zI s0) 0 (zI s1 0)) (zL s0)) (ws' := (wd_Earnest_copy cy o0 a0 (upd (zI s0) 0 (zI s1 0)) (zL s0) (zA s0 5) o1 a1 (zI s1) (zL s1) (zA s1 5))) hx hb hown hT hK hP hD hS inX3 rfl smX3 tyX3_ok nmX3 0 rfl 0 (by decide) tb_173 rfl rfl rfl (Nat.le_of_ble_eq_true rfl) rfl rfl dX3_copy_5 (fun H locs hP hD hS => ?_)
  refine lv_aload_n hx hb dX3_copy_8 rfl (lv_at hl 0 rfl) ?_
  refine lv_aload_n hx hb dX3_copy_9 rfl (lv_at hl 1 rfl) ?_
  refine zget (v := .int (zI s1 1)) hx hb hown hT hK hP inX3 rfl smX3 2 rfl 1 (by decide) tb_175 rfl dX3_copy_10 ?_
  refine zput (fs' := fs_Earnest a0 (upd (upd (zI s0) 0 (zI s1 0)) 1 (zI s1 1)) (zL s0)) (ws' := (wd_Earnest_copy cy o0 a0 (upd (upd (zI s0) 0 (zI s1 0)) 1 (zI s1 1)) (zL s0) (zA s0 5) o1 a1 (zI s1) (zL s1) (zA s1 5))) hx hb hown hT hK hP hD hS inX3 rfl smX3 tyX3_ok nmX3 0 rfl 1 (by decide) tb_175 rfl rfl rfl (Nat.le_of_ble_eq_true rfl) rfl rfl dX3_copy_13 (fun H locs hP hD hS => ?_)
  refine lv_aload_n hx hb dX3_copy_16 rfl (lv_at hl 0 rfl) ?_
  refine lv_aload_n hx hb dX3_copy_17 rfl (lv_at hl 1 rfl) ?_
  refine zget (v := .int (zI s1 2)) hx hb hown hT hK hP inX3 rfl smX3 2 rfl 2 (by decide) tb_177 rfl dX3_copy_18 ?_
  refine zput (fs' := fs_Earnest a0 (upd (upd (upd (zI s0) 0 (zI s1 0)) 1 (zI s1 1)) 2 (zI s1 2)) (zL s0)) (ws' := (wd_Earnest_copy cy o0 a0 (upd (upd (upd (zI s0) 0 (zI s1 0)) 1 (zI s1 1)) 2 (zI s1 2)) (zL s0) (zA s0 5) o1 a1 (zI s1) (zL s1) (zA s1 5))) hx hb hown hT hK hP hD hS inX3 rfl smX3 tyX3_ok nmX3 0 rfl 2 (by decide) tb_177 rfl rfl rfl (Nat.le_of_ble_eq_true rfl) rfl rfl dX3_copy_21 (fun H locs hP hD hS => ?_)
  refine lv_aload_n hx hb dX3_copy_24 rfl (lv_at hl 0 rfl) ?_
  refine lv_aload_n hx hb dX3_copy_25 rfl (lv_at hl 1 rfl) ?_
  refine zget (v := .int (zI s1 3)) hx hb hown hT hK hP inX3 rfl smX3 2 rfl 3 (by decide) tb_179 rfl dX3_copy_26 ?_
  refine zput (fs' := fs_Earnest a0 (upd (upd (upd (upd (zI s0) 0 (zI s1 0)) 1 (zI s1 1)) 2 (zI s1 2)) 3 (zI s1 3)) (zL s0)) (ws' := (wd_Earnest_copy cy o0 a0 (upd (upd (upd (upd (zI s0) 0 (zI s1 0)) 1 (zI s1 1)) 2 (zI s1 2)) 3 (zI s1 3)) (zL s0) (zA s0 5) o1 a1 (zI s1) (zL s1) (zA s1 5))) hx hb hown hT hK hP hD hS inX3 rfl smX3 tyX3_ok nmX3 0 rfl 3 (by decide) tb_179 rfl rfl rfl (Nat.le_of_ble_eq_true rfl) rfl rfl dX3_copy_29 (fun H locs hP hD hS => ?_)
  refine lv_aload_n hx hb dX3_copy_32 rfl (lv_at hl 0 rfl) ?_
  refine lv_aload_n hx hb dX3_copy_33 rfl (lv_at hl 1 rfl) ?_
  refine zget (v := .int (zI s1 4)) hx hb hown hT hK hP inX3 rfl smX3 2 rfl 4 (by decide) tb_181 rfl dX3_copy_34 ?_
  refine zput (fs' := fs_Earnest a0 (upd (upd (upd (upd (upd (zI s0) 0 (zI s1 0)) 1 (zI s1 1)) 2 (zI s1 2)) 3 (zI s1 3)) 4 (zI s1 4)) (zL s0)) (ws' := (wd_Earnest_copy cy o0 a0 (upd (upd (upd (upd (upd (zI s0) 0 (zI s1 0)) 1 (zI s1 1)) 2 (zI s1 2)) 3 (zI s1 3)) 4 (zI s1 4)) (zL s0) (zA s0 5) o1 a1 (zI s1) (zL s1) (zA s1 5))) hx hb hown hT hK hP hD hS inX3 rfl smX3 tyX3_ok nmX3 0 rfl 4 (by decide) tb_181 rfl rfl rfl (Nat.le_of_ble_eq_true rfl) rfl rfl dX3_copy_37 (fun H locs hP hD hS => ?_)
  refine lv_aload_n hx hb dX3_copy_40 rfl (lv_at hl 1 rfl) ?_
  refine zget (v := .ref (a1 5)) hx hb hown hT hK hP inX3 rfl smX3 2 rfl 5 (by decide) tb_183 rfl dX3_copy_41 ?_
  refine lv_iconst (v := 0) hx hb dX3_copy_44 (by decide) ?_
  refine lv_aload_n hx hb dX3_copy_45 rfl (lv_at hl 0 rfl) ?_
  refine zget (v := .ref (a0 5)) hx hb hown hT hK hP inX3 rfl smX3 0 rfl 5 (by decide) tb_183 rfl dX3_copy_46 ?_
  refine lv_iconst (v := 0) hx hb dX3_copy_49 (by decide) ?_
  refine lv_bipush (v := 11) hx hb dX3_copy_50 (by decide) ?_
  obtain ⟨hc1, hf⟩ := zcp_some hf
  refine zcpi (ws' := (wd_Earnest_copy cy o0 a0 (upd (upd (upd (upd (upd (zI s0) 0 (zI s1 0)) 1 (zI s1 1)) 2 (zI s1 2)) 3 (zI s1 3)) 4 (zI s1 4)) (zL s0) (va_cpy (zA s1 5) (zA s0 5) (Int32.toNatClampNeg 0) (Int32.toNatClampNeg 0) (Int32.toNatClampNeg 11)) o1 a1 (zI s1) (zL s1) (zA s1 5))) hx hb hml hl.1 hown hT tb_987 tb_907 tb_906 tb_16 hK hP hD hS 3 1 rfl rfl rfl rfl hc1 (Nat.le_of_ble_eq_true rfl) (by decide +kernel) rfl dX3_copy_52 (fun H locs hP hD hS => ?_)
  cases hf
  exact zewv hx hb hr hk hK hP hD hS dX3_copy_55
set_option maxHeartbeats 4000000 in
set_option maxRecDepth 100000 in
theorem c_Earnest_copy {l : Launch} {dC : Nat → ClassId} {dI : Nat → Nat → Nat} {cy : Nat → ClassId} {sz : Nat} {N : Nat} (o0 : Nat) (a0 : Nat → Nat) (s0 : zSt) (o1 : Nat) (a1 : Nat → Nat) (s1 : zSt) {y : zSt} (hf : Earnest_copy N s0 s1 = some y) : Met l yX3_copy (.code yX3_copy cX3_copy 2 none :: zt) rm_Earnest_copy (va_Pc [.ref o0, .ref o1] (zPre (dC, dI) cy (wd_Earnest_copy cy o0 a0 (zI s0) (zL s0) (zA s0 5) o1 a1 (zI s1) (zL s1) (zA s1 5)) sz)) (zQv (dC, dI) cy (wd_Earnest_copy cy o0 a0 (zI y) (zL y) (zA y 5) o1 a1 (zI s1) (zL s1) (zA s1 5)) (va_A (wd_Earnest_copy cy o0 a0 (zI s0) (zL s0) (zA s0 5) o1 a1 (zI s1) (zL s1) (zA s1 5)) sz)) 0 0 (va_A (wd_Earnest_copy cy o0 a0 (zI s0) (zL s0) (zA s0 5) o1 a1 (zI s1) (zL s1) (zA s1 5)) sz) :=
  zentW (Qw := fun A => (zQv (dC, dI) cy (wd_Earnest_copy cy o0 a0 (zI y) (zL y) (zA y 5) o1 a1 (zI s1) (zL s1) (zA s1 5)) A)) (by decide +kernel) (Nat.le_of_ble_eq_true rfl) (fun p e s m below meth c A C0 hA hP hD hS ls hl => k_Earnest_copy_b0 C0 s0 s1 hA hP hD hS hf ls hl)
def wd_Earnest_isThere (cy : Nat → ClassId) (o0 : Nat) (a0 : Nat → Nat) (g0 : Nat → Int32) (h0 : Nat → Int64) : va_W := [(o0, .inr (3, fs_Earnest a0 g0 h0))]
def rm_Earnest_isThere : Room := { frames := 1, cells := 0, slots := 0, locals := 40 }
set_option maxHeartbeats 4000000 in
set_option maxRecDepth 100000 in
theorem k_Earnest_isThere_b0 {p : Program} {l : Launch} {e : Env} {s : State} {m : MethodId} {args : Array Value} {below : List Frame} {meth : Method} {c : Code} {dC : Nat → ClassId} {dI : Nat → Nat → Nat} {cy : Nat → ClassId} {o0 : Nat} {a0 : Nat → Nat} {N : Nat} {y : Int32} (C0 : zCx p s m args meth c cX3_isThere 2 (some .boolean) RX3 (dC, dI) cy) (s0 : zSt) (v1 : Int32) (hP : va_P (dC, dI) vwCl (wd_Earnest_isThere cy o0 a0 (zI s0) (zL s0)) s.heap) (hf : Earnest_isThere_b0 N s0 v1 = some y) (ls : Array Slot) (hl : lv_has ls 2 [(0, .ref o0), (1, .int v1)]) : W p l e rm_Earnest_isThere s m args below meth c s.heap [] 0 0 (MQ below (zSi y) args s 0 0 (fun _ => False)) (F0 m 0 ls []) := by
  obtain ⟨hx, hb, hr, hml, hown, hT, hk, hK⟩ := id C0
  refine lv_aload_n hx hb dX3_isThere_0 rfl (lv_at hl 0 rfl) ?_
  refine zget (v := .int (zI s0 0)) hx hb hown hT hK hP inX3 rfl smX3 0 rfl 0 (by decide) tb_173 rfl dX3_isThere_1 ?_
  refine lv_iload_n hx hb dX3_isThere_4 rfl (lv_at hl 1 rfl) ?_
  refine lv_ishr hx hb dX3_isThere_5 ?_
  refine lv_iconst (v := 1) hx hb dX3_isThere_6 (by decide) ?_
  refine lv_iand hx hb dX3_isThere_7 ?_
  refine lv_iconst (v := 1) hx hb dX3_isThere_8 (by decide) ?_
  refine lv_icmp_ne (tgt := 16) hx hb dX3_isThere_9 (by decide) (fun hb_1 => ?_) (fun hb_1 => ?_)
  · have hf := zif_f hb_1 hf
    refine lv_iconst (v := 0) hx hb dX3_isThere_16 (by decide) ?_
    cases hf
    exact zerz hx hb hr hk (Or.inl rfl) dX3_isThere_17
  · have hf := zif_t hb_1 hf
    refine lv_iconst (v := 1) hx hb dX3_isThere_12 (by decide) ?_
    refine lv_goto (tgt := 17) hx hb dX3_isThere_13 (by decide) ?_
    cases hf
    exact zerz hx hb hr hk (Or.inr rfl) dX3_isThere_17
set_option maxHeartbeats 4000000 in
set_option maxRecDepth 100000 in
theorem c_Earnest_isThere {l : Launch} {dC : Nat → ClassId} {dI : Nat → Nat → Nat} {cy : Nat → ClassId} {N : Nat} (o0 : Nat) (a0 : Nat → Nat) (s0 : zSt) (v1 : Int32) {y : Int32} (hf : Earnest_isThere N s0 v1 = some y) : Met l yX3_isThere (.code yX3_isThere cX3_isThere 2 (some .boolean) :: zt) rm_Earnest_isThere (va_Pc [.ref o0, .int v1] (zRd (dC, dI) cy (wd_Earnest_isThere cy o0 a0 (zI s0) (zL s0)))) (zSi y) 0 0 (fun _ => False) :=
  zentR (by decide +kernel) (Nat.le_of_ble_eq_true rfl) (fun p e s m below meth c C0 hP ls hl => k_Earnest_isThere_b0 C0 s0 v1 hP hf ls hl)
def wd_Earnest_isStanding (cy : Nat → ClassId) (o0 : Nat) (a0 : Nat → Nat) (g0 : Nat → Int32) (h0 : Nat → Int64) : va_W := [(o0, .inr (3, fs_Earnest a0 g0 h0))]
def rm_Earnest_isStanding : Room := { frames := 1, cells := 0, slots := 0, locals := 40 }
set_option maxHeartbeats 4000000 in
set_option maxRecDepth 100000 in
theorem k_Earnest_isStanding_b0 {p : Program} {l : Launch} {e : Env} {s : State} {m : MethodId} {args : Array Value} {below : List Frame} {meth : Method} {c : Code} {dC : Nat → ClassId} {dI : Nat → Nat → Nat} {cy : Nat → ClassId} {o0 : Nat} {a0 : Nat → Nat} {N : Nat} {y : Int32} (C0 : zCx p s m args meth c cX3_isStanding 2 (some .boolean) RX3 (dC, dI) cy) (s0 : zSt) (v1 : Int32) (hP : va_P (dC, dI) vwCl (wd_Earnest_isStanding cy o0 a0 (zI s0) (zL s0)) s.heap) (hf : Earnest_isStanding_b0 N s0 v1 = some y) (ls : Array Slot) (hl : lv_has ls 2 [(0, .ref o0), (1, .int v1)]) : W p l e rm_Earnest_isStanding s m args below meth c s.heap [] 0 0 (MQ below (zSi y) args s 0 0 (fun _ => False)) (F0 m 0 ls []) := by
  obtain ⟨hx, hb, hr, hml, hown, hT, hk, hK⟩ := id C0
  refine lv_aload_n hx hb dX3_isStanding_0 rfl (lv_at hl 0 rfl) ?_
  refine zget (v := .int (zI s0 1)) hx hb hown hT hK hP inX3 rfl smX3 0 rfl 1 (by decide) tb_175 rfl dX3_isStanding_1 ?_
  refine lv_iload_n hx hb dX3_isStanding_4 rfl (lv_at hl 1 rfl) ?_
  refine lv_ishr hx hb dX3_isStanding_5 ?_
  refine lv_iconst (v := 1) hx hb dX3_isStanding_6 (by decide) ?_
  refine lv_iand hx hb dX3_isStanding_7 ?_
  refine lv_iconst (v := 1) hx hb dX3_isStanding_8 (by decide) ?_
  refine lv_icmp_ne (tgt := 16) hx hb dX3_isStanding_9 (by decide) (fun hb_1 => ?_) (fun hb_1 => ?_)
  · have hf := zif_f hb_1 hf
    refine lv_iconst (v := 0) hx hb dX3_isStanding_16 (by decide) ?_
    cases hf
    exact zerz hx hb hr hk (Or.inl rfl) dX3_isStanding_17
  · have hf := zif_t hb_1 hf
    refine lv_iconst (v := 1) hx hb dX3_isStanding_12 (by decide) ?_
    refine lv_goto (tgt := 17) hx hb dX3_isStanding_13 (by decide) ?_
    cases hf
    exact zerz hx hb hr hk (Or.inr rfl) dX3_isStanding_17
set_option maxHeartbeats 4000000 in
set_option maxRecDepth 100000 in
theorem c_Earnest_isStanding {l : Launch} {dC : Nat → ClassId} {dI : Nat → Nat → Nat} {cy : Nat → ClassId} {N : Nat} (o0 : Nat) (a0 : Nat → Nat) (s0 : zSt) (v1 : Int32) {y : Int32} (hf : Earnest_isStanding N s0 v1 = some y) : Met l yX3_isStanding (.code yX3_isStanding cX3_isStanding 2 (some .boolean) :: zt) rm_Earnest_isStanding (va_Pc [.ref o0, .int v1] (zRd (dC, dI) cy (wd_Earnest_isStanding cy o0 a0 (zI s0) (zL s0)))) (zSi y) 0 0 (fun _ => False) :=
  zentR (by decide +kernel) (Nat.le_of_ble_eq_true rfl) (fun p e s m below meth c C0 hP ls hl => k_Earnest_isStanding_b0 C0 s0 v1 hP hf ls hl)
def wd_Earnest_toneOf (cy : Nat → ClassId) (o0 : Nat) (a0 : Nat → Nat) (g0 : Nat → Int32) (h0 : Nat → Int64) (x0_5 : Nat → Int32) (o1 : Nat) (a1 : Nat → Nat) (g1 : Nat → Int32) (h1 : Nat → Int64) (x1_5 : Nat → Int32) : va_W := [(o0, .inr (3, fs_Earnest a0 g0 h0)), (a0 5, .inl (cy 0, 11, .inl x0_5)), (o1, .inr (9, fs_Valley a1 g1 h1)), (a1 5, .inl (cy 0, 11, .inl x1_5))]
def rm_Earnest_toneOf : Room := { frames := 2, cells := 0, slots := 0, locals := 62 }
theorem rm_ok_Earnest_toneOf_Math_floorMod : rm_Math_floorMod.cells = 0 ∧ rm_Math_floorMod.slots = 0 ∧ rm_Math_floorMod.frames + 1 ≤ rm_Earnest_toneOf.frames ∧ 8 + (3 + 11) + rm_Math_floorMod.locals ≤ rm_Earnest_toneOf.locals := by decide
set_option maxHeartbeats 4000000 in
set_option maxRecDepth 100000 in
theorem k_Earnest_toneOf_b0 {p : Program} {l : Launch} {e : Env} {s : State} {m : MethodId} {args : Array Value} {below : List Frame} {meth : Method} {c : Code} {dC : Nat → ClassId} {dI : Nat → Nat → Nat} {cy : Nat → ClassId} {o0 : Nat} {a0 : Nat → Nat} {o1 : Nat} {a1 : Nat → Nat} {N : Nat} {y : Int32} (C0 : zCx p s m args meth c cX3_toneOf 3 (some .int) RX3 (dC, dI) cy) (s0 : zSt) (s1 : zSt) (v2 : Int32) (hP : va_P (dC, dI) vwCl (wd_Earnest_toneOf cy o0 a0 (zI s0) (zL s0) (zA s0 5) o1 a1 (zI s1) (zL s1) (zA s1 5)) s.heap) (hf : Earnest_toneOf_b0 N s0 s1 v2 = some y) (ls : Array Slot) (hl : lv_has ls 3 [(0, .ref o0), (1, .ref o1), (2, .int v2)]) : W p l e rm_Earnest_toneOf s m args below meth c s.heap [] 0 0 (MQ below (zSi y) args s 0 0 (fun _ => False)) (F0 m 0 ls []) := by
  obtain ⟨hx, hb, hr, hml, hown, hT, hk, hK⟩ := id C0
  refine lv_aload_n hx hb dX3_toneOf_0 rfl (lv_at hl 1 rfl) ?_
  refine zget (v := .ref (a1 5)) hx hb hown hT hK hP inX9 rfl smX9 2 rfl 5 (by decide) tb_113 rfl dX3_toneOf_1 ?_
  refine lv_iload_n hx hb dX3_toneOf_4 rfl (lv_at hl 2 rfl) ?_
  obtain ⟨hi1, hf⟩ := zck_some hf
  refine va_iald hx hb hK.1 hP 3 0 rfl rfl hi1 dX3_toneOf_5 ?_
  refine lv_aload_n hx hb dX3_toneOf_6 rfl (lv_at hl 0 rfl) ?_
  refine zget (v := .ref (a0 5)) hx hb hown hT hK hP inX3 rfl smX3 0 rfl 5 (by decide) tb_183 rfl dX3_toneOf_7 ?_
  refine lv_iload_n hx hb dX3_toneOf_10 rfl (lv_at hl 2 rfl) ?_
  obtain ⟨hi2, hf⟩ := zck_some hf
  refine va_iald hx hb hK.1 hP 1 0 rfl rfl hi2 dX3_toneOf_11 ?_
  refine lv_aload_n hx hb dX3_toneOf_12 rfl (lv_at hl 0 rfl) ?_
  refine zget (v := .int (zI s0 4)) hx hb hown hT hK hP inX3 rfl smX3 0 rfl 4 (by decide) tb_181 rfl dX3_toneOf_13 ?_
  refine lv_imul hx hb dX3_toneOf_16 ?_
  refine lv_isub hx hb dX3_toneOf_17 ?_
  refine lv_bipush (v := 12) hx hb dX3_toneOf_18 (by decide) ?_
  obtain ⟨z3, hc4, hf⟩ := zbd_some hf
  refine zri (zS (As := [.int (((zA s1 5) (Int32.toNatClampNeg v2)) - (((zA s0 5) (Int32.toNatClampNeg v2)) * (zI s0 4))), .int 12]) hx hb hml hown hT hl.1 (c_Math_floorMod (((zA s1 5) (Int32.toNatClampNeg v2)) - (((zA s0 5) (Int32.toNatClampNeg v2)) * (zI s0 4))) 12 hc4) zY_Math_floorMod tb_661 (zpS hK hP [] rfl) rm_ok_Earnest_toneOf_Math_floorMod rfl rfl (Nat.le_of_ble_eq_true rfl) dX3_toneOf_20 ⟨Nat.zero_le _, Nat.zero_le _⟩) ?_
  cases hf
  exact zeri hx hb hr hk dX3_toneOf_23
set_option maxHeartbeats 4000000 in
set_option maxRecDepth 100000 in
theorem c_Earnest_toneOf {l : Launch} {dC : Nat → ClassId} {dI : Nat → Nat → Nat} {cy : Nat → ClassId} {N : Nat} (o0 : Nat) (a0 : Nat → Nat) (s0 : zSt) (o1 : Nat) (a1 : Nat → Nat) (s1 : zSt) (v2 : Int32) {y : Int32} (hf : Earnest_toneOf N s0 s1 v2 = some y) : Met l yX3_toneOf (.code yX3_toneOf cX3_toneOf 3 (some .int) :: zt) rm_Earnest_toneOf (va_Pc [.ref o0, .ref o1, .int v2] (zRd (dC, dI) cy (wd_Earnest_toneOf cy o0 a0 (zI s0) (zL s0) (zA s0 5) o1 a1 (zI s1) (zL s1) (zA s1 5)))) (zSi y) 0 0 (fun _ => False) :=
  zentR (by decide +kernel) (Nat.le_of_ble_eq_true rfl) (fun p e s m below meth c C0 hP ls hl => k_Earnest_toneOf_b0 C0 s0 s1 v2 hP hf ls hl)
def wd_Valley_loudAt (cy : Nat → ClassId) (o0 : Nat) (a0 : Nat → Nat) (g0 : Nat → Int32) (h0 : Nat → Int64) (x0_6 : Nat → Int32) (x0_14 : Nat → Int32) : va_W := [(o0, .inr (9, fs_Valley a0 g0 h0)), (a0 6, .inl (cy 0, 11, .inl x0_6)), (a0 14, .inl (cy 0, 4, .inl x0_14))]
def rm_Valley_loudAt : Room := { frames := 2, cells := 0, slots := 0, locals := 61 }
theorem rm_ok_Valley_loudAt_Math_abs : rm_Math_abs.cells = 0 ∧ rm_Math_abs.slots = 0 ∧ rm_Math_abs.frames + 1 ≤ rm_Valley_loudAt.frames ∧ 8 + (1 + 11) + rm_Math_abs.locals ≤ rm_Valley_loudAt.locals := by decide
theorem rm_ok_Valley_loudAt_Math_max : rm_Math_max.cells = 0 ∧ rm_Math_max.slots = 0 ∧ rm_Math_max.frames + 1 ≤ rm_Valley_loudAt.frames ∧ 8 + (2 + 11) + rm_Math_max.locals ≤ rm_Valley_loudAt.locals := by decide
set_option maxHeartbeats 4000000 in
set_option maxRecDepth 100000 in
theorem k_Valley_loudAt_b0 {p : Program} {l : Launch} {e : Env} {s : State} {m : MethodId} {args : Array Value} {below : List Frame} {meth : Method} {c : Code} {dC : Nat → ClassId} {dI : Nat → Nat → Nat} {cy : Nat → ClassId} {o0 : Nat} {a0 : Nat → Nat} {N : Nat} {y : Int32} (C0 : zCx p s m args meth c cX9_loudAt 6 (some .int) RX9 (dC, dI) cy) (s0 : zSt) (v1 : Int32) (v2 : Int32) (v3 : Int32) (v4 : Int32) (hP : va_P (dC, dI) vwCl (wd_Valley_loudAt cy o0 a0 (zI s0) (zL s0) (zA s0 6) (zA s0 14)) s.heap) (hf : Valley_loudAt_b0 N s0 v1 v2 v3 v4 = some y) (ls : Array Slot) (hl : lv_has ls 6 [(0, .ref o0), (1, .int v1), (2, .int v2), (3, .int v3), (4, .int v4)]) : W p l e rm_Valley_loudAt s m args below meth c s.heap [] 0 0 (MQ below (zSi y) args s 0 0 (fun _ => False)) (F0 m 0 ls []) := by
  obtain ⟨hx, hb, hr, hml, hown, hT, hk, hK⟩ := id C0
  refine lv_iload_n hx hb dX9_loudAt_0 rfl (lv_at hl 3 rfl) ?_
  refine lv_aload_n hx hb dX9_loudAt_1 rfl (lv_at hl 0 rfl) ?_
  refine zget (v := .ref (a0 14)) hx hb hown hT hK hP inX9 rfl smX9 0 rfl 14 (by decide) tb_135 rfl dX9_loudAt_2 ?_
  refine lv_iload_n hx hb dX9_loudAt_5 rfl (lv_at hl 2 rfl) ?_
  obtain ⟨hi1, hf⟩ := zck_some hf
  refine va_iald hx hb hK.1 hP 2 0 rfl rfl hi1 dX9_loudAt_6 ?_
  refine lv_isub hx hb dX9_loudAt_7 ?_
  obtain ⟨z2, hc3, hf⟩ := zbd_some hf
  refine zri (zS (As := [.int (v3 - ((zA s0 14) (Int32.toNatClampNeg v2)))]) hx hb hml hown hT hl.1 (c_Math_abs (v3 - ((zA s0 14) (Int32.toNatClampNeg v2))) hc3) zY_Math_abs tb_689 (zpS hK hP [] rfl) rm_ok_Valley_loudAt_Math_abs rfl rfl (Nat.le_of_ble_eq_true rfl) dX9_loudAt_8 ⟨Nat.zero_le _, Nat.zero_le _⟩) ?_
  refine lv_istore (lv' := [(5, .int z2), (0, .ref o0), (1, .int v1), (2, .int v2), (3, .int v3), (4, .int v4)]) hx hb dX9_loudAt_11 hl (by decide) rfl (fun ls hl => ?_)
  refine lv_iconst (v := 0) hx hb dX9_loudAt_13 (by decide) ?_
  refine lv_aload_n hx hb dX9_loudAt_14 rfl (lv_at hl 1 rfl) ?_
  refine zget (v := .ref (a0 6)) hx hb hown hT hK hP inX9 rfl smX9 0 rfl 6 (by decide) tb_114 rfl dX9_loudAt_15 ?_
  refine lv_iload_n hx hb dX9_loudAt_18 rfl (lv_at hl 2 rfl) ?_
  obtain ⟨hi4, hf⟩ := zck_some hf
  refine va_iald hx hb hK.1 hP 1 0 rfl rfl hi4 dX9_loudAt_19 ?_
  refine lv_iload hx hb dX9_loudAt_20 (lv_at hl 0 rfl) ?_
  refine lv_isub hx hb dX9_loudAt_22 ?_
  refine lv_iload hx hb dX9_loudAt_23 (lv_at hl 5 rfl) ?_
  refine lv_isub hx hb dX9_loudAt_25 ?_
  obtain ⟨z5, hc6, hf⟩ := zbd_some hf
  refine zri (zS (As := [.int 0, .int ((((zA s0 6) (Int32.toNatClampNeg v1)) - z2) - v4)]) hx hb hml hown hT hl.1 (c_Math_max 0 ((((zA s0 6) (Int32.toNatClampNeg v1)) - z2) - v4) hc6) zY_Math_max tb_692 (zpS hK hP [] rfl) rm_ok_Valley_loudAt_Math_max rfl rfl (Nat.le_of_ble_eq_true rfl) dX9_loudAt_26 ⟨Nat.zero_le _, Nat.zero_le _⟩) ?_
  cases hf
  exact zeri hx hb hr hk dX9_loudAt_29
set_option maxHeartbeats 4000000 in
set_option maxRecDepth 100000 in
theorem c_Valley_loudAt {l : Launch} {dC : Nat → ClassId} {dI : Nat → Nat → Nat} {cy : Nat → ClassId} {N : Nat} (o0 : Nat) (a0 : Nat → Nat) (s0 : zSt) (v1 : Int32) (v2 : Int32) (v3 : Int32) (v4 : Int32) {y : Int32} (hf : Valley_loudAt N s0 v1 v2 v3 v4 = some y) : Met l yX9_loudAt (.code yX9_loudAt cX9_loudAt 6 (some .int) :: zt) rm_Valley_loudAt (va_Pc [.ref o0, .int v1, .int v2, .int v3, .int v4] (zRd (dC, dI) cy (wd_Valley_loudAt cy o0 a0 (zI s0) (zL s0) (zA s0 6) (zA s0 14)))) (zSi y) 0 0 (fun _ => False) :=
  zentR (by decide +kernel) (Nat.le_of_ble_eq_true rfl) (fun p e s m below meth c C0 hP ls hl => k_Valley_loudAt_b0 C0 s0 v1 v2 v3 v4 hP hf ls hl)
def wd_Earnest_loudness (cy : Nat → ClassId) (o0 : Nat) (a0 : Nat → Nat) (g0 : Nat → Int32) (h0 : Nat → Int64) (x0_5 : Nat → Int32) (o1 : Nat) (a1 : Nat → Nat) (g1 : Nat → Int32) (h1 : Nat → Int64) (x1_5 : Nat → Int32) (x1_6 : Nat → Int32) (x1_14 : Nat → Int32) : va_W := [(o0, .inr (3, fs_Earnest a0 g0 h0)), (a0 5, .inl (cy 0, 11, .inl x0_5)), (o1, .inr (9, fs_Valley a1 g1 h1)), (a1 5, .inl (cy 0, 11, .inl x1_5)), (a1 6, .inl (cy 0, 11, .inl x1_6)), (a1 14, .inl (cy 0, 4, .inl x1_14))]
def rm_Earnest_loudness : Room := { frames := 3, cells := 0, slots := 0, locals := 86 }
theorem rm_ok_Earnest_loudness_Earnest_isStanding : rm_Earnest_isStanding.cells = 0 ∧ rm_Earnest_isStanding.slots = 0 ∧ rm_Earnest_isStanding.frames + 1 ≤ rm_Earnest_loudness.frames ∧ 8 + (2 + 11) + rm_Earnest_isStanding.locals ≤ rm_Earnest_loudness.locals := by decide
theorem rm_ok_Earnest_loudness_Earnest_isThere : rm_Earnest_isThere.cells = 0 ∧ rm_Earnest_isThere.slots = 0 ∧ rm_Earnest_isThere.frames + 1 ≤ rm_Earnest_loudness.frames ∧ 8 + (2 + 11) + rm_Earnest_isThere.locals ≤ rm_Earnest_loudness.locals := by decide
theorem rm_ok_Earnest_loudness_Earnest_toneOf : rm_Earnest_toneOf.cells = 0 ∧ rm_Earnest_toneOf.slots = 0 ∧ rm_Earnest_toneOf.frames + 1 ≤ rm_Earnest_loudness.frames ∧ 8 + (3 + 11) + rm_Earnest_toneOf.locals ≤ rm_Earnest_loudness.locals := by decide
theorem rm_ok_Earnest_loudness_Valley_loudAt : rm_Valley_loudAt.cells = 0 ∧ rm_Valley_loudAt.slots = 0 ∧ rm_Valley_loudAt.frames + 1 ≤ rm_Earnest_loudness.frames ∧ 8 + (6 + 11) + rm_Valley_loudAt.locals ≤ rm_Earnest_loudness.locals := by decide
set_option maxHeartbeats 4000000 in
set_option maxRecDepth 100000 in
theorem k_Earnest_loudness_b64 {p : Program} {l : Launch} {e : Env} {s : State} {m : MethodId} {args : Array Value} {below : List Frame} {meth : Method} {c : Code} {dC : Nat → ClassId} {dI : Nat → Nat → Nat} {cy : Nat → ClassId} {o0 : Nat} {a0 : Nat → Nat} {o1 : Nat} {a1 : Nat → Nat} {N : Nat} {kh6 : Int32 → Int32 → Option (Int32)} {y : Int32} (C0 : zCx p s m args meth c cX3_loudness 6 (some .int) RX3 (dC, dI) cy) (s0 : zSt) (s1 : zSt) (v2 : Int32) (v3 : Int32) (v4 : Int32) (v5 : Int32) (hk6 : ∀ (v4 : Int32) (v5 : Int32) (_ : kh6 v4 v5 = some y) (ls : Array Slot) (_ : lv_has ls 6 [(0, .ref o0), (1, .ref o1), (2, .int v2), (3, .int v3), (4, .int v4), (5, .int v5)]), W p l e rm_Earnest_loudness s m args below meth c s.heap [] 0 0 (MQ below (zSi y) args s 0 0 (fun _ => False)) (F0 m 6 ls [])) (hP : va_P (dC, dI) vwCl (wd_Earnest_loudness cy o0 a0 (zI s0) (zL s0) (zA s0 5) o1 a1 (zI s1) (zL s1) (zA s1 5) (zA s1 6) (zA s1 14)) s.heap) (hf : Earnest_loudness_b64 N kh6 s0 s1 v2 v3 v4 v5 = some y) (ls : Array Slot) (hl : lv_has ls 6 [(0, .ref o0), (1, .ref o1), (2, .int v2), (3, .int v3), (4, .int v4), (5, .int v5)]) : W p l e rm_Earnest_loudness s m args below meth c s.heap [] 0 0 (MQ below (zSi y) args s 0 0 (fun _ => False)) (F0 m 64 ls []) := by
  obtain ⟨hx, hb, hr, hml, hown, hT, hk, hK⟩ := id C0
  refine lv_iinc (v := v5 + 1) (lv' := [(5, .int (v5 + 1)), (0, .ref o0), (1, .ref o1), (2, .int v2), (3, .int v3), (4, .int v4)]) hx hb dX3_loudness_64 hl (k := 5) rfl rfl (by decide) rfl (fun ls hl => ?_)
  refine lv_goto (tgt := 6) hx hb dX3_loudness_67 (by decide) ?_
  exact hk6 v4 (v5 + 1) hf _ (lv_sub hl [1, 2, 3, 4, 5, 0] rfl)
set_option maxHeartbeats 4000000 in
set_option maxRecDepth 100000 in
theorem k_Earnest_loudness_b6 {p : Program} {l : Launch} {e : Env} {s : State} {m : MethodId} {args : Array Value} {below : List Frame} {meth : Method} {c : Code} {dC : Nat → ClassId} {dI : Nat → Nat → Nat} {cy : Nat → ClassId} {o0 : Nat} {a0 : Nat → Nat} {o1 : Nat} {a1 : Nat → Nat} {N : Nat} {kh6 : Int32 → Int32 → Option (Int32)} {y : Int32} (C0 : zCx p s m args meth c cX3_loudness 6 (some .int) RX3 (dC, dI) cy) (s0 : zSt) (s1 : zSt) (v2 : Int32) (v3 : Int32) (v4 : Int32) (v5 : Int32) (hk6 : ∀ (v4 : Int32) (v5 : Int32) (_ : kh6 v4 v5 = some y) (ls : Array Slot) (_ : lv_has ls 6 [(0, .ref o0), (1, .ref o1), (2, .int v2), (3, .int v3), (4, .int v4), (5, .int v5)]), W p l e rm_Earnest_loudness s m args below meth c s.heap [] 0 0 (MQ below (zSi y) args s 0 0 (fun _ => False)) (F0 m 6 ls [])) (hP : va_P (dC, dI) vwCl (wd_Earnest_loudness cy o0 a0 (zI s0) (zL s0) (zA s0 5) o1 a1 (zI s1) (zL s1) (zA s1 5) (zA s1 6) (zA s1 14)) s.heap) (hf : Earnest_loudness_b6 N kh6 s0 s1 v2 v3 v4 v5 = some y) (ls : Array Slot) (hl : lv_has ls 6 [(0, .ref o0), (1, .ref o1), (2, .int v2), (3, .int v3), (4, .int v4), (5, .int v5)]) : W p l e rm_Earnest_loudness s m args below meth c s.heap [] 0 0 (MQ below (zSi y) args s 0 0 (fun _ => False)) (F0 m 6 ls []) := by
  obtain ⟨hx, hb, hr, hml, hown, hT, hk, hK⟩ := id C0
  refine lv_iload hx hb dX3_loudness_6 (lv_at hl 5 rfl) ?_
  refine lv_aload_n hx hb dX3_loudness_8 rfl (lv_at hl 1 rfl) ?_
  refine zget (v := .int (zI s1 3)) hx hb hown hT hK hP inX9 rfl smX9 2 rfl 3 (by decide) tb_107 rfl dX3_loudness_9 ?_
  refine lv_icmp_ge (tgt := 70) hx hb dX3_loudness_12 (by decide) (fun hb_1 => ?_) (fun hb_1 => ?_)
  · have hf := zif_t hb_1 hf
    refine lv_iload hx hb dX3_loudness_70 (lv_at hl 4 rfl) ?_
    cases hf
    exact zeri hx hb hr hk dX3_loudness_72
  · have hf := zif_f hb_1 hf
    refine lv_aload_n hx hb dX3_loudness_15 rfl (lv_at hl 0 rfl) ?_
    refine lv_iload hx hb dX3_loudness_16 (lv_at hl 5 rfl) ?_
    obtain ⟨z2, hc3, hf⟩ := zbd_some hf
    refine zri (zV (As := [.int v5]) hx hb hml hown hT hl.1 (c_Earnest_isThere o0 a0 s0 v5 hc3) zY_Earnest_isThere tb_676 (zpR hK hP [0] rfl 0 3 rfl rfl rfl) rm_ok_Earnest_loudness_Earnest_isThere rfl rfl (Nat.le_of_ble_eq_true rfl) dX3_loudness_18 ⟨Nat.zero_le _, Nat.zero_le _⟩) ?_
    refine lv_if_eq (tgt := 64) hx hb dX3_loudness_21 (by decide) (fun hb_4 => ?_) (fun hb_4 => ?_)
    · have hf := zif_t hb_4 hf
      exact k_Earnest_loudness_b64 C0 s0 s1 v2 v3 v4 v5 hk6 hP hf _ (lv_sub hl [0, 1, 2, 3, 4, 5] rfl)
    · have hf := zif_f hb_4 hf
      refine lv_aload_n hx hb dX3_loudness_24 rfl (lv_at hl 0 rfl) ?_
      refine lv_iload hx hb dX3_loudness_25 (lv_at hl 5 rfl) ?_
      obtain ⟨z5, hc6, hf⟩ := zbd_some hf
      refine zri (zV (As := [.int v5]) hx hb hml hown hT hl.1 (c_Earnest_isStanding o0 a0 s0 v5 hc6) zY_Earnest_isStanding tb_680 (zpR hK hP [0] rfl 0 3 rfl rfl rfl) rm_ok_Earnest_loudness_Earnest_isStanding rfl rfl (Nat.le_of_ble_eq_true rfl) dX3_loudness_27 ⟨Nat.zero_le _, Nat.zero_le _⟩) ?_
      refine lv_if_ne (tgt := 64) hx hb dX3_loudness_30 (by decide) (fun hb_7 => ?_) (fun hb_7 => ?_)
      · have hf := zif_f hb_7 hf
        exact k_Earnest_loudness_b64 C0 s0 s1 v2 v3 v4 v5 hk6 hP hf _ (lv_sub hl [0, 1, 2, 3, 4, 5] rfl)
      · have hf := zif_t hb_7 hf
        refine lv_aload_n hx hb dX3_loudness_33 rfl (lv_at hl 0 rfl) ?_
        refine lv_aload_n hx hb dX3_loudness_34 rfl (lv_at hl 1 rfl) ?_
        refine lv_iload hx hb dX3_loudness_35 (lv_at hl 5 rfl) ?_
        obtain ⟨z8, hc9, hf⟩ := zbd_some hf
        refine zri (zV (As := [.ref o1, .int v5]) hx hb hml hown hT hl.1 (c_Earnest_toneOf o0 a0 s0 o1 a1 s1 v5 hc9) zY_Earnest_toneOf tb_684 (zpR hK hP [0, 1, 2, 3] rfl 0 3 rfl rfl rfl) rm_ok_Earnest_loudness_Earnest_toneOf rfl rfl (Nat.le_of_ble_eq_true rfl) dX3_loudness_37 ⟨Nat.zero_le _, Nat.zero_le _⟩) ?_
        refine lv_iload_n hx hb dX3_loudness_40 rfl (lv_at hl 3 rfl) ?_
        refine lv_icmp_ne (tgt := 64) hx hb dX3_loudness_41 (by decide) (fun hb_10 => ?_) (fun hb_10 => ?_)
        · have hf := zif_f hb_10 hf
          exact k_Earnest_loudness_b64 C0 s0 s1 v2 v3 v4 v5 hk6 hP hf _ (lv_sub hl [0, 1, 2, 3, 4, 5] rfl)
        · have hf := zif_t hb_10 hf
          refine lv_iload hx hb dX3_loudness_44 (lv_at hl 4 rfl) ?_
          refine lv_aload_n hx hb dX3_loudness_46 rfl (lv_at hl 1 rfl) ?_
          refine lv_iload hx hb dX3_loudness_47 (lv_at hl 5 rfl) ?_
          refine lv_iload_n hx hb dX3_loudness_49 rfl (lv_at hl 2 rfl) ?_
          refine lv_aload_n hx hb dX3_loudness_50 rfl (lv_at hl 0 rfl) ?_
          refine zget (v := .int (zI s0 2)) hx hb hown hT hK hP inX3 rfl smX3 0 rfl 2 (by decide) tb_177 rfl dX3_loudness_51 ?_
          refine lv_aload_n hx hb dX3_loudness_54 rfl (lv_at hl 0 rfl) ?_
          refine zget (v := .int (zI s0 3)) hx hb hown hT hK hP inX3 rfl smX3 0 rfl 3 (by decide) tb_179 rfl dX3_loudness_55 ?_
          obtain ⟨z11, hc12, hf⟩ := zbd_some hf
          refine zri (zV (As := [.int v5, .int v2, .int (zI s0 2), .int (zI s0 3)]) hx hb hml hown hT hl.1 (c_Valley_loudAt o1 a1 s1 v5 v2 (zI s0 2) (zI s0 3) hc12) zY_Valley_loudAt tb_685 (zpR hK hP [2, 4, 5] rfl 0 9 rfl rfl rfl) rm_ok_Earnest_loudness_Valley_loudAt rfl rfl (Nat.le_of_ble_eq_true rfl) dX3_loudness_58 ⟨Nat.zero_le _, Nat.zero_le _⟩) ?_
          refine lv_iadd hx hb dX3_loudness_61 ?_
          refine lv_istore (lv' := [(4, .int (v4 + z11)), (0, .ref o0), (1, .ref o1), (2, .int v2), (3, .int v3), (5, .int v5)]) hx hb dX3_loudness_62 hl (by decide) rfl (fun ls hl => ?_)
          exact k_Earnest_loudness_b64 C0 s0 s1 v2 v3 (v4 + z11) v5 hk6 hP hf _ (lv_sub hl [1, 2, 3, 4, 0, 5] rfl)
set_option maxHeartbeats 4000000 in
set_option maxRecDepth 100000 in
theorem k_Earnest_loudness_h6 {p : Program} {l : Launch} {e : Env} {s : State} {m : MethodId} {args : Array Value} {below : List Frame} {meth : Method} {c : Code} {dC : Nat → ClassId} {dI : Nat → Nat → Nat} {cy : Nat → ClassId} {o0 : Nat} {a0 : Nat → Nat} {o1 : Nat} {a1 : Nat → Nat} {N : Nat} {y : Int32} (C0 : zCx p s m args meth c cX3_loudness 6 (some .int) RX3 (dC, dI) cy) (s0 : zSt) (s1 : zSt) (v2 : Int32) (v3 : Int32) (hP : va_P (dC, dI) vwCl (wd_Earnest_loudness cy o0 a0 (zI s0) (zL s0) (zA s0 5) o1 a1 (zI s1) (zL s1) (zA s1 5) (zA s1 6) (zA s1 14)) s.heap) : ∀ (n : Nat) (v4 : Int32) (v5 : Int32) (hf : Earnest_loudness_h6 N s0 s1 v2 v3 n v4 v5 = some y) (ls : Array Slot) (hl : lv_has ls 6 [(0, .ref o0), (1, .ref o1), (2, .int v2), (3, .int v3), (4, .int v4), (5, .int v5)]), W p l e rm_Earnest_loudness s m args below meth c s.heap [] 0 0 (MQ below (zSi y) args s 0 0 (fun _ => False)) (F0 m 6 ls []) := by
  intro n
  induction n with
  | zero => intro v4 v5 hf; cases hf
  | succ n ih =>
    intro v4 v5 hf ls hl
    have hf : Earnest_loudness_b6 N (Earnest_loudness_h6 N s0 s1 v2 v3 n) s0 s1 v2 v3 v4 v5 = some y := hf
    exact k_Earnest_loudness_b6 C0 s0 s1 v2 v3 v4 v5 (fun v4 v5 hf ls hl => ih v4 v5 hf ls hl) hP hf ls hl
set_option maxHeartbeats 4000000 in
set_option maxRecDepth 100000 in
theorem k_Earnest_loudness_b0 {p : Program} {l : Launch} {e : Env} {s : State} {m : MethodId} {args : Array Value} {below : List Frame} {meth : Method} {c : Code} {dC : Nat → ClassId} {dI : Nat → Nat → Nat} {cy : Nat → ClassId} {o0 : Nat} {a0 : Nat → Nat} {o1 : Nat} {a1 : Nat → Nat} {N : Nat} {y : Int32} (C0 : zCx p s m args meth c cX3_loudness 6 (some .int) RX3 (dC, dI) cy) (s0 : zSt) (s1 : zSt) (v2 : Int32) (v3 : Int32) (hP : va_P (dC, dI) vwCl (wd_Earnest_loudness cy o0 a0 (zI s0) (zL s0) (zA s0 5) o1 a1 (zI s1) (zL s1) (zA s1 5) (zA s1 6) (zA s1 14)) s.heap) (hf : Earnest_loudness_b0 N s0 s1 v2 v3 = some y) (ls : Array Slot) (hl : lv_has ls 6 [(0, .ref o0), (1, .ref o1), (2, .int v2), (3, .int v3)]) : W p l e rm_Earnest_loudness s m args below meth c s.heap [] 0 0 (MQ below (zSi y) args s 0 0 (fun _ => False)) (F0 m 0 ls []) := by
  obtain ⟨hx, hb, hr, hml, hown, hT, hk, hK⟩ := id C0
  refine lv_iconst (v := 0) hx hb dX3_loudness_0 (by decide) ?_
  refine lv_istore (lv' := [(4, .int 0), (0, .ref o0), (1, .ref o1), (2, .int v2), (3, .int v3)]) hx hb dX3_loudness_1 hl (by decide) rfl (fun ls hl => ?_)
  refine lv_iconst (v := 0) hx hb dX3_loudness_3 (by decide) ?_
  refine lv_istore (lv' := [(5, .int 0), (4, .int 0), (0, .ref o0), (1, .ref o1), (2, .int v2), (3, .int v3)]) hx hb dX3_loudness_4 hl (by decide) rfl (fun ls hl => ?_)
  exact k_Earnest_loudness_h6 C0 s0 s1 v2 v3  hP N 0 0 hf _ (lv_sub hl [2, 3, 4, 5, 1, 0] rfl)
set_option maxHeartbeats 4000000 in
set_option maxRecDepth 100000 in
theorem c_Earnest_loudness {l : Launch} {dC : Nat → ClassId} {dI : Nat → Nat → Nat} {cy : Nat → ClassId} {N : Nat} (o0 : Nat) (a0 : Nat → Nat) (s0 : zSt) (o1 : Nat) (a1 : Nat → Nat) (s1 : zSt) (v2 : Int32) (v3 : Int32) {y : Int32} (hf : Earnest_loudness N s0 s1 v2 v3 = some y) : Met l yX3_loudness (.code yX3_loudness cX3_loudness 6 (some .int) :: zt) rm_Earnest_loudness (va_Pc [.ref o0, .ref o1, .int v2, .int v3] (zRd (dC, dI) cy (wd_Earnest_loudness cy o0 a0 (zI s0) (zL s0) (zA s0 5) o1 a1 (zI s1) (zL s1) (zA s1 5) (zA s1 6) (zA s1 14)))) (zSi y) 0 0 (fun _ => False) :=
  zentR (by decide +kernel) (Nat.le_of_ble_eq_true rfl) (fun p e s m below meth c C0 hP ls hl => k_Earnest_loudness_b0 C0 s0 s1 v2 v3 hP hf ls hl)
def wd_Entries_add (cy : Nat → ClassId) (o0 : Nat) (a0 : Nat → Nat) (g0 : Nat → Int32) (h0 : Nat → Int64) (x0_1 : Nat → Int32) (x0_2 : Nat → Int32) (x0_3 : Nat → Int32) (x0_4 : Nat → Int32) (x0_5 : Nat → Int32) (x0_6 : Nat → Int32) (x0_7 : Nat → Int32) : va_W := [(o0, .inr (4, fs_Entries a0 g0 h0)), (a0 1, .inl (cy 0, 40, .inl x0_1)), (a0 2, .inl (cy 0, 40, .inl x0_2)), (a0 3, .inl (cy 0, 40, .inl x0_3)), (a0 4, .inl (cy 0, 40, .inl x0_4)), (a0 5, .inl (cy 0, 40, .inl x0_5)), (a0 6, .inl (cy 0, 40, .inl x0_6)), (a0 7, .inl (cy 0, 40, .inl x0_7))]
def rm_Entries_add : Room := { frames := 1, cells := 0, slots := 0, locals := 40 }
set_option maxHeartbeats 4000000 in
set_option maxRecDepth 100000 in
theorem k_Entries_add_b94 {p : Program} {l : Launch} {e : Env} {s : State} {m : MethodId} {args : Array Value} {below : List Frame} {meth : Method} {c : Code} {dC : Nat → ClassId} {dI : Nat → Nat → Nat} {cy : Nat → ClassId} {A : Nat → Prop} {o0 : Nat} {a0 : Nat → Nat} {N : Nat} {y : Int32 × zSt} (C0 : zCx p s m args meth c cX4_add 7 (some .int) RX4 (dC, dI) cy) (s0 : zSt) (hA : ∀ q, s.heap.size ≤ q → A q) {H : Heap} {locs : List Loc} (hP : va_P (dC, dI) vwCl (wd_Entries_add cy o0 a0 (zI s0) (zL s0) (zA s0 1) (zA s0 2) (zA s0 3) (zA s0 4) (zA s0 5) (zA s0 6) (zA s0 7)) H) (hD : va_D A (wd_Entries_add cy o0 a0 (zI s0) (zL s0) (zA s0 1) (zA s0 2) (zA s0 3) (zA s0 4) (zA s0 5) (zA s0 6) (zA s0 7))) (hS : va_S A s.heap H locs) (hf : Entries_add_b94 N s0 = some y) (ls : Array Slot) (hl : lv_has ls 7 [(0, .ref o0)]) : W p l e rm_Entries_add s m args below meth c H locs 0 0 (MQ below (zQi y.1 (dC, dI) cy (wd_Entries_add cy o0 a0 (zI y.2) (zL y.2) (zA y.2 1) (zA y.2 2) (zA y.2 3) (zA y.2 4) (zA y.2 5) (zA y.2 6) (zA y.2 7)) A) args s 0 0 A) (F0 m 94 ls []) := by
  obtain ⟨hx, hb, hr, hml, hown, hT, hk, hK⟩ := id C0
  refine lv_aload_n hx hb dX4_add_94 rfl (lv_at hl 0 rfl) ?_
  refine zget (v := .int (zI s0 0)) hx hb hown hT hK hP inX4 rfl smX4 0 rfl 0 (by decide) tb_205 rfl dX4_add_95 ?_
  refine lv_iconst (v := 1) hx hb dX4_add_98 (by decide) ?_
  refine lv_isub hx hb dX4_add_99 ?_
  cases hf
  exact zewi hx hb hr hk hK hP hD hS dX4_add_100
set_option maxHeartbeats 4000000 in
set_option maxRecDepth 100000 in
theorem k_Entries_add_b84 {p : Program} {l : Launch} {e : Env} {s : State} {m : MethodId} {args : Array Value} {below : List Frame} {meth : Method} {c : Code} {dC : Nat → ClassId} {dI : Nat → Nat → Nat} {cy : Nat → ClassId} {A : Nat → Prop} {o0 : Nat} {a0 : Nat → Nat} {N : Nat} {y : Int32 × zSt} (C0 : zCx p s m args meth c cX4_add 7 (some .int) RX4 (dC, dI) cy) (s0 : zSt) (hA : ∀ q, s.heap.size ≤ q → A q) {H : Heap} {locs : List Loc} (hP : va_P (dC, dI) vwCl (wd_Entries_add cy o0 a0 (zI s0) (zL s0) (zA s0 1) (zA s0 2) (zA s0 3) (zA s0 4) (zA s0 5) (zA s0 6) (zA s0 7)) H) (hD : va_D A (wd_Entries_add cy o0 a0 (zI s0) (zL s0) (zA s0 1) (zA s0 2) (zA s0 3) (zA s0 4) (zA s0 5) (zA s0 6) (zA s0 7))) (hS : va_S A s.heap H locs) (hf : Entries_add_b84 N s0 = some y) (ls : Array Slot) (hl : lv_has ls 7 [(0, .ref o0)]) : W p l e rm_Entries_add s m args below meth c H locs 0 0 (MQ below (zQi y.1 (dC, dI) cy (wd_Entries_add cy o0 a0 (zI y.2) (zL y.2) (zA y.2 1) (zA y.2 2) (zA y.2 3) (zA y.2 4) (zA y.2 5) (zA y.2 6) (zA y.2 7)) A) args s 0 0 A) (F0 m 84 ls []) := by
  obtain ⟨hx, hb, hr, hml, hown, hT, hk, hK⟩ := id C0
  refine lv_aload_n hx hb dX4_add_84 rfl (lv_at hl 0 rfl) ?_
  refine lv_dup hx hb dX4_add_85 rfl ?_
  refine zget (v := .int (zI s0 0)) hx hb hown hT hK hP inX4 rfl smX4 0 rfl 0 (by decide) tb_205 rfl dX4_add_86 ?_
  refine lv_iconst (v := 1) hx hb dX4_add_89 (by decide) ?_
  refine lv_iadd hx hb dX4_add_90 ?_
  refine zput (fs' := fs_Entries a0 (upd (zI s0) 0 ((zI s0 0) + 1)) (zL s0)) (ws' := (wd_Entries_add cy o0 a0 (upd (zI s0) 0 ((zI s0 0) + 1)) (zL s0) (zA s0 1) (zA s0 2) (zA s0 3) (zA s0 4) (zA s0 5) (zA s0 6) (zA s0 7))) hx hb hown hT hK hP hD hS inX4 rfl smX4 tyX4_ok nmX4 0 rfl 0 (by decide) tb_205 rfl rfl rfl (Nat.le_of_ble_eq_true rfl) rfl rfl dX4_add_91 (fun H locs hP hD hS => ?_)
  exact k_Entries_add_b94 C0 (zpI s0 0 ((zI s0 0) + 1))  hA hP hD hS hf _ (lv_sub hl [0] rfl)
set_option maxHeartbeats 4000000 in
set_option maxRecDepth 100000 in
theorem k_Entries_add_b0 {p : Program} {l : Launch} {e : Env} {s : State} {m : MethodId} {args : Array Value} {below : List Frame} {meth : Method} {c : Code} {dC : Nat → ClassId} {dI : Nat → Nat → Nat} {cy : Nat → ClassId} {A : Nat → Prop} {o0 : Nat} {a0 : Nat → Nat} {N : Nat} {y : Int32 × zSt} (C0 : zCx p s m args meth c cX4_add 7 (some .int) RX4 (dC, dI) cy) (s0 : zSt) (v1 : Int32) (v2 : Int32) (v3 : Int32) (v4 : Int32) (v5 : Int32) (v6 : Int32) (hA : ∀ q, s.heap.size ≤ q → A q) {H : Heap} {locs : List Loc} (hP : va_P (dC, dI) vwCl (wd_Entries_add cy o0 a0 (zI s0) (zL s0) (zA s0 1) (zA s0 2) (zA s0 3) (zA s0 4) (zA s0 5) (zA s0 6) (zA s0 7)) H) (hD : va_D A (wd_Entries_add cy o0 a0 (zI s0) (zL s0) (zA s0 1) (zA s0 2) (zA s0 3) (zA s0 4) (zA s0 5) (zA s0 6) (zA s0 7))) (hS : va_S A s.heap H locs) (hf : Entries_add_b0 N s0 v1 v2 v3 v4 v5 v6 = some y) (ls : Array Slot) (hl : lv_has ls 7 [(0, .ref o0), (1, .int v1), (2, .int v2), (3, .int v3), (4, .int v4), (5, .int v5), (6, .int v6)]) : W p l e rm_Entries_add s m args below meth c H locs 0 0 (MQ below (zQi y.1 (dC, dI) cy (wd_Entries_add cy o0 a0 (zI y.2) (zL y.2) (zA y.2 1) (zA y.2 2) (zA y.2 3) (zA y.2 4) (zA y.2 5) (zA y.2 6) (zA y.2 7)) A) args s 0 0 A) (F0 m 0 ls []) := by
  obtain ⟨hx, hb, hr, hml, hown, hT, hk, hK⟩ := id C0
  refine lv_aload_n hx hb dX4_add_0 rfl (lv_at hl 0 rfl) ?_
  refine zget (v := .int (zI s0 0)) hx hb hown hT hK hP inX4 rfl smX4 0 rfl 0 (by decide) tb_205 rfl dX4_add_1 ?_
  refine lv_bipush (v := 40) hx hb dX4_add_4 (by decide) ?_
  refine lv_icmp_lt (tgt := 11) hx hb dX4_add_6 (by decide) (fun hb_1 => ?_) (fun hb_1 => ?_)
  · have hf := zif_t hb_1 hf
    refine lv_aload_n hx hb dX4_add_11 rfl (lv_at hl 0 rfl) ?_
    refine zget (v := .ref (a0 1)) hx hb hown hT hK hP inX4 rfl smX4 0 rfl 1 (by decide) tb_209 rfl dX4_add_12 ?_
    refine lv_aload_n hx hb dX4_add_15 rfl (lv_at hl 0 rfl) ?_
    refine zget (v := .int (zI s0 0)) hx hb hown hT hK hP inX4 rfl smX4 0 rfl 0 (by decide) tb_205 rfl dX4_add_16 ?_
    refine lv_iload_n hx hb dX4_add_19 rfl (lv_at hl 1 rfl) ?_
    obtain ⟨hi2, hf⟩ := zck_some hf
    refine zast (ws' := (wd_Entries_add cy o0 a0 (zI s0) (zL s0) (upd (zA s0 1) (Int32.toNatClampNeg (zI s0 0)) v1) (zA s0 2) (zA s0 3) (zA s0 4) (zA s0 5) (zA s0 6) (zA s0 7))) hx hb hK hP hD hS 1 0 rfl rfl hi2 rfl dX4_add_20 (fun H locs hP hD hS => ?_)
    refine lv_aload_n hx hb dX4_add_21 rfl (lv_at hl 0 rfl) ?_
    refine zget (v := .ref (a0 2)) hx hb hown hT hK hP inX4 rfl smX4 0 rfl 2 (by decide) tb_213 rfl dX4_add_22 ?_
    refine lv_aload_n hx hb dX4_add_25 rfl (lv_at hl 0 rfl) ?_
    refine zget (v := .int (zI s0 0)) hx hb hown hT hK hP inX4 rfl smX4 0 rfl 0 (by decide) tb_205 rfl dX4_add_26 ?_
    refine lv_iload_n hx hb dX4_add_29 rfl (lv_at hl 2 rfl) ?_
    obtain ⟨hi3, hf⟩ := zck_some hf
    refine zast (ws' := (wd_Entries_add cy o0 a0 (zI s0) (zL s0) (upd (zA s0 1) (Int32.toNatClampNeg (zI s0 0)) v1) (upd (zA s0 2) (Int32.toNatClampNeg (zI s0 0)) v2) (zA s0 3) (zA s0 4) (zA s0 5) (zA s0 6) (zA s0 7))) hx hb hK hP hD hS 2 0 rfl rfl hi3 rfl dX4_add_30 (fun H locs hP hD hS => ?_)
    refine lv_aload_n hx hb dX4_add_31 rfl (lv_at hl 0 rfl) ?_
    refine zget (v := .ref (a0 3)) hx hb hown hT hK hP inX4 rfl smX4 0 rfl 3 (by decide) tb_216 rfl dX4_add_32 ?_
    refine lv_aload_n hx hb dX4_add_35 rfl (lv_at hl 0 rfl) ?_
    refine zget (v := .int (zI s0 0)) hx hb hown hT hK hP inX4 rfl smX4 0 rfl 0 (by decide) tb_205 rfl dX4_add_36 ?_
    refine lv_iload_n hx hb dX4_add_39 rfl (lv_at hl 3 rfl) ?_
    obtain ⟨hi4, hf⟩ := zck_some hf
    refine zast (ws' := (wd_Entries_add cy o0 a0 (zI s0) (zL s0) (upd (zA s0 1) (Int32.toNatClampNeg (zI s0 0)) v1) (upd (zA s0 2) (Int32.toNatClampNeg (zI s0 0)) v2) (upd (zA s0 3) (Int32.toNatClampNeg (zI s0 0)) v3) (zA s0 4) (zA s0 5) (zA s0 6) (zA s0 7))) hx hb hK hP hD hS 3 0 rfl rfl hi4 rfl dX4_add_40 (fun H locs hP hD hS => ?_)
    refine lv_aload_n hx hb dX4_add_41 rfl (lv_at hl 0 rfl) ?_
    refine zget (v := .ref (a0 4)) hx hb hown hT hK hP inX4 rfl smX4 0 rfl 4 (by decide) tb_220 rfl dX4_add_42 ?_
    refine lv_aload_n hx hb dX4_add_45 rfl (lv_at hl 0 rfl) ?_
    refine zget (v := .int (zI s0 0)) hx hb hown hT hK hP inX4 rfl smX4 0 rfl 0 (by decide) tb_205 rfl dX4_add_46 ?_
    refine lv_iload hx hb dX4_add_49 (lv_at hl 4 rfl) ?_
    obtain ⟨hi5, hf⟩ := zck_some hf
    refine zast (ws' := (wd_Entries_add cy o0 a0 (zI s0) (zL s0) (upd (zA s0 1) (Int32.toNatClampNeg (zI s0 0)) v1) (upd (zA s0 2) (Int32.toNatClampNeg (zI s0 0)) v2) (upd (zA s0 3) (Int32.toNatClampNeg (zI s0 0)) v3) (upd (zA s0 4) (Int32.toNatClampNeg (zI s0 0)) v4) (zA s0 5) (zA s0 6) (zA s0 7))) hx hb hK hP hD hS 4 0 rfl rfl hi5 rfl dX4_add_51 (fun H locs hP hD hS => ?_)
    refine lv_aload_n hx hb dX4_add_52 rfl (lv_at hl 0 rfl) ?_
    refine zget (v := .ref (a0 5)) hx hb hown hT hK hP inX4 rfl smX4 0 rfl 5 (by decide) tb_223 rfl dX4_add_53 ?_
    refine lv_aload_n hx hb dX4_add_56 rfl (lv_at hl 0 rfl) ?_
    refine zget (v := .int (zI s0 0)) hx hb hown hT hK hP inX4 rfl smX4 0 rfl 0 (by decide) tb_205 rfl dX4_add_57 ?_
    refine lv_iload hx hb dX4_add_60 (lv_at hl 5 rfl) ?_
    obtain ⟨hi6, hf⟩ := zck_some hf
    refine zast (ws' := (wd_Entries_add cy o0 a0 (zI s0) (zL s0) (upd (zA s0 1) (Int32.toNatClampNeg (zI s0 0)) v1) (upd (zA s0 2) (Int32.toNatClampNeg (zI s0 0)) v2) (upd (zA s0 3) (Int32.toNatClampNeg (zI s0 0)) v3) (upd (zA s0 4) (Int32.toNatClampNeg (zI s0 0)) v4) (upd (zA s0 5) (Int32.toNatClampNeg (zI s0 0)) v5) (zA s0 6) (zA s0 7))) hx hb hK hP hD hS 5 0 rfl rfl hi6 rfl dX4_add_62 (fun H locs hP hD hS => ?_)
    refine lv_aload_n hx hb dX4_add_63 rfl (lv_at hl 0 rfl) ?_
    refine zget (v := .ref (a0 6)) hx hb hown hT hK hP inX4 rfl smX4 0 rfl 6 (by decide) tb_226 rfl dX4_add_64 ?_
    refine lv_aload_n hx hb dX4_add_67 rfl (lv_at hl 0 rfl) ?_
    refine zget (v := .int (zI s0 0)) hx hb hown hT hK hP inX4 rfl smX4 0 rfl 0 (by decide) tb_205 rfl dX4_add_68 ?_
    refine lv_iload hx hb dX4_add_71 (lv_at hl 6 rfl) ?_
    obtain ⟨hi7, hf⟩ := zck_some hf
    refine zast (ws' := (wd_Entries_add cy o0 a0 (zI s0) (zL s0) (upd (zA s0 1) (Int32.toNatClampNeg (zI s0 0)) v1) (upd (zA s0 2) (Int32.toNatClampNeg (zI s0 0)) v2) (upd (zA s0 3) (Int32.toNatClampNeg (zI s0 0)) v3) (upd (zA s0 4) (Int32.toNatClampNeg (zI s0 0)) v4) (upd (zA s0 5) (Int32.toNatClampNeg (zI s0 0)) v5) (upd (zA s0 6) (Int32.toNatClampNeg (zI s0 0)) v6) (zA s0 7))) hx hb hK hP hD hS 6 0 rfl rfl hi7 rfl dX4_add_73 (fun H locs hP hD hS => ?_)
    refine lv_aload_n hx hb dX4_add_74 rfl (lv_at hl 0 rfl) ?_
    refine zget (v := .ref (a0 7)) hx hb hown hT hK hP inX4 rfl smX4 0 rfl 7 (by decide) tb_227 rfl dX4_add_75 ?_
    refine lv_aload_n hx hb dX4_add_78 rfl (lv_at hl 0 rfl) ?_
    refine zget (v := .int (zI s0 0)) hx hb hown hT hK hP inX4 rfl smX4 0 rfl 0 (by decide) tb_205 rfl dX4_add_79 ?_
    refine lv_iconst (v := (-1)) hx hb dX4_add_82 (by decide) ?_
    obtain ⟨hi8, hf⟩ := zck_some hf
    refine zast (ws' := (wd_Entries_add cy o0 a0 (zI s0) (zL s0) (upd (zA s0 1) (Int32.toNatClampNeg (zI s0 0)) v1) (upd (zA s0 2) (Int32.toNatClampNeg (zI s0 0)) v2) (upd (zA s0 3) (Int32.toNatClampNeg (zI s0 0)) v3) (upd (zA s0 4) (Int32.toNatClampNeg (zI s0 0)) v4) (upd (zA s0 5) (Int32.toNatClampNeg (zI s0 0)) v5) (upd (zA s0 6) (Int32.toNatClampNeg (zI s0 0)) v6) (upd (zA s0 7) (Int32.toNatClampNeg (zI s0 0)) (-1)))) hx hb hK hP hD hS 7 0 rfl rfl hi8 rfl dX4_add_83 (fun H locs hP hD hS => ?_)
    exact k_Entries_add_b84 C0 (zsA (zsA (zsA (zsA (zsA (zsA (zsA s0 1 (upd (zA s0 1) (Int32.toNatClampNeg (zI s0 0)) v1)) 2 (upd (zA s0 2) (Int32.toNatClampNeg (zI s0 0)) v2)) 3 (upd (zA s0 3) (Int32.toNatClampNeg (zI s0 0)) v3)) 4 (upd (zA s0 4) (Int32.toNatClampNeg (zI s0 0)) v4)) 5 (upd (zA s0 5) (Int32.toNatClampNeg (zI s0 0)) v5)) 6 (upd (zA s0 6) (Int32.toNatClampNeg (zI s0 0)) v6)) 7 (upd (zA s0 7) (Int32.toNatClampNeg (zI s0 0)) (-1)))  hA hP hD hS hf _ (lv_sub hl [0] rfl)
  · have hf := zif_f hb_1 hf
    refine lv_iconst (v := (-1)) hx hb dX4_add_9 (by decide) ?_
    cases hf
    exact zewi hx hb hr hk hK hP hD hS dX4_add_10
set_option maxHeartbeats 4000000 in
set_option maxRecDepth 100000 in
theorem c_Entries_add {l : Launch} {dC : Nat → ClassId} {dI : Nat → Nat → Nat} {cy : Nat → ClassId} {sz : Nat} {N : Nat} (o0 : Nat) (a0 : Nat → Nat) (s0 : zSt) (v1 : Int32) (v2 : Int32) (v3 : Int32) (v4 : Int32) (v5 : Int32) (v6 : Int32) {y : Int32 × zSt} (hf : Entries_add N s0 v1 v2 v3 v4 v5 v6 = some y) : Met l yX4_add (.code yX4_add cX4_add 7 (some .int) :: zt) rm_Entries_add (va_Pc [.ref o0, .int v1, .int v2, .int v3, .int v4, .int v5, .int v6] (zPre (dC, dI) cy (wd_Entries_add cy o0 a0 (zI s0) (zL s0) (zA s0 1) (zA s0 2) (zA s0 3) (zA s0 4) (zA s0 5) (zA s0 6) (zA s0 7)) sz)) (zQi y.1 (dC, dI) cy (wd_Entries_add cy o0 a0 (zI y.2) (zL y.2) (zA y.2 1) (zA y.2 2) (zA y.2 3) (zA y.2 4) (zA y.2 5) (zA y.2 6) (zA y.2 7)) (va_A (wd_Entries_add cy o0 a0 (zI s0) (zL s0) (zA s0 1) (zA s0 2) (zA s0 3) (zA s0 4) (zA s0 5) (zA s0 6) (zA s0 7)) sz)) 0 0 (va_A (wd_Entries_add cy o0 a0 (zI s0) (zL s0) (zA s0 1) (zA s0 2) (zA s0 3) (zA s0 4) (zA s0 5) (zA s0 6) (zA s0 7)) sz) :=
  zentW (Qw := fun A => (zQi y.1 (dC, dI) cy (wd_Entries_add cy o0 a0 (zI y.2) (zL y.2) (zA y.2 1) (zA y.2 2) (zA y.2 3) (zA y.2 4) (zA y.2 5) (zA y.2 6) (zA y.2 7)) A)) (by decide +kernel) (Nat.le_of_ble_eq_true rfl) (fun p e s m below meth c A C0 hA hP hD hS ls hl => k_Entries_add_b0 C0 s0 v1 v2 v3 v4 v5 v6 hA hP hD hS hf ls hl)
def wd_Valley_loudness (cy : Nat → ClassId) (o0 : Nat) (a0 : Nat → Nat) (g0 : Nat → Int32) (h0 : Nat → Int64) (x0_5 : Nat → Int32) (x0_6 : Nat → Int32) (x0_14 : Nat → Int32) : va_W := [(o0, .inr (9, fs_Valley a0 g0 h0)), (a0 5, .inl (cy 0, 11, .inl x0_5)), (a0 6, .inl (cy 0, 11, .inl x0_6)), (a0 14, .inl (cy 0, 4, .inl x0_14))]
def rm_Valley_loudness : Room := { frames := 3, cells := 0, slots := 0, locals := 86 }
theorem rm_ok_Valley_loudness_Valley_loudAt : rm_Valley_loudAt.cells = 0 ∧ rm_Valley_loudAt.slots = 0 ∧ rm_Valley_loudAt.frames + 1 ≤ rm_Valley_loudness.frames ∧ 8 + (6 + 11) + rm_Valley_loudAt.locals ≤ rm_Valley_loudness.locals := by decide
set_option maxHeartbeats 4000000 in
set_option maxRecDepth 100000 in
theorem k_Valley_loudness_b52 {p : Program} {l : Launch} {e : Env} {s : State} {m : MethodId} {args : Array Value} {below : List Frame} {meth : Method} {c : Code} {dC : Nat → ClassId} {dI : Nat → Nat → Nat} {cy : Nat → ClassId} {o0 : Nat} {a0 : Nat → Nat} {N : Nat} {kh6 : Int32 → Int32 → Option (Int32)} {y : Int32} (C0 : zCx p s m args meth c cX9_loudness 8 (some .int) RX9 (dC, dI) cy) (s0 : zSt) (v1 : Int32) (v2 : Int32) (v3 : Int32) (v4 : Int32) (v5 : Int32) (v6 : Int32) (v7 : Int32) (hk6 : ∀ (v6 : Int32) (v7 : Int32) (_ : kh6 v6 v7 = some y) (ls : Array Slot) (_ : lv_has ls 8 [(0, .ref o0), (1, .int v1), (2, .int v2), (3, .int v3), (4, .int v4), (5, .int v5), (6, .int v6), (7, .int v7)]), W p l e rm_Valley_loudness s m args below meth c s.heap [] 0 0 (MQ below (zSi y) args s 0 0 (fun _ => False)) (F0 m 6 ls [])) (hP : va_P (dC, dI) vwCl (wd_Valley_loudness cy o0 a0 (zI s0) (zL s0) (zA s0 5) (zA s0 6) (zA s0 14)) s.heap) (hf : Valley_loudness_b52 N kh6 s0 v1 v2 v3 v4 v5 v6 v7 = some y) (ls : Array Slot) (hl : lv_has ls 8 [(0, .ref o0), (1, .int v1), (2, .int v2), (3, .int v3), (4, .int v4), (5, .int v5), (6, .int v6), (7, .int v7)]) : W p l e rm_Valley_loudness s m args below meth c s.heap [] 0 0 (MQ below (zSi y) args s 0 0 (fun _ => False)) (F0 m 52 ls []) := by
  obtain ⟨hx, hb, hr, hml, hown, hT, hk, hK⟩ := id C0
  refine lv_iinc (v := v7 + 1) (lv' := [(7, .int (v7 + 1)), (0, .ref o0), (1, .int v1), (2, .int v2), (3, .int v3), (4, .int v4), (5, .int v5), (6, .int v6)]) hx hb dX9_loudness_52 hl (k := 7) rfl rfl (by decide) rfl (fun ls hl => ?_)
  refine lv_goto (tgt := 6) hx hb dX9_loudness_55 (by decide) ?_
  exact hk6 v6 (v7 + 1) hf _ (lv_sub hl [1, 2, 3, 4, 5, 6, 7, 0] rfl)
set_option maxHeartbeats 4000000 in
set_option maxRecDepth 100000 in
theorem k_Valley_loudness_b6 {p : Program} {l : Launch} {e : Env} {s : State} {m : MethodId} {args : Array Value} {below : List Frame} {meth : Method} {c : Code} {dC : Nat → ClassId} {dI : Nat → Nat → Nat} {cy : Nat → ClassId} {o0 : Nat} {a0 : Nat → Nat} {N : Nat} {kh6 : Int32 → Int32 → Option (Int32)} {y : Int32} (C0 : zCx p s m args meth c cX9_loudness 8 (some .int) RX9 (dC, dI) cy) (s0 : zSt) (v1 : Int32) (v2 : Int32) (v3 : Int32) (v4 : Int32) (v5 : Int32) (v6 : Int32) (v7 : Int32) (hk6 : ∀ (v6 : Int32) (v7 : Int32) (_ : kh6 v6 v7 = some y) (ls : Array Slot) (_ : lv_has ls 8 [(0, .ref o0), (1, .int v1), (2, .int v2), (3, .int v3), (4, .int v4), (5, .int v5), (6, .int v6), (7, .int v7)]), W p l e rm_Valley_loudness s m args below meth c s.heap [] 0 0 (MQ below (zSi y) args s 0 0 (fun _ => False)) (F0 m 6 ls [])) (hP : va_P (dC, dI) vwCl (wd_Valley_loudness cy o0 a0 (zI s0) (zL s0) (zA s0 5) (zA s0 6) (zA s0 14)) s.heap) (hf : Valley_loudness_b6 N kh6 s0 v1 v2 v3 v4 v5 v6 v7 = some y) (ls : Array Slot) (hl : lv_has ls 8 [(0, .ref o0), (1, .int v1), (2, .int v2), (3, .int v3), (4, .int v4), (5, .int v5), (6, .int v6), (7, .int v7)]) : W p l e rm_Valley_loudness s m args below meth c s.heap [] 0 0 (MQ below (zSi y) args s 0 0 (fun _ => False)) (F0 m 6 ls []) := by
  obtain ⟨hx, hb, hr, hml, hown, hT, hk, hK⟩ := id C0
  refine lv_iload hx hb dX9_loudness_6 (lv_at hl 7 rfl) ?_
  refine lv_aload_n hx hb dX9_loudness_8 rfl (lv_at hl 0 rfl) ?_
  refine zget (v := .int (zI s0 3)) hx hb hown hT hK hP inX9 rfl smX9 0 rfl 3 (by decide) tb_101 rfl dX9_loudness_9 ?_
  refine lv_icmp_ge (tgt := 58) hx hb dX9_loudness_12 (by decide) (fun hb_1 => ?_) (fun hb_1 => ?_)
  · have hf := zif_t hb_1 hf
    refine lv_iload hx hb dX9_loudness_58 (lv_at hl 6 rfl) ?_
    cases hf
    exact zeri hx hb hr hk dX9_loudness_60
  · have hf := zif_f hb_1 hf
    refine lv_iload_n hx hb dX9_loudness_15 rfl (lv_at hl 1 rfl) ?_
    refine lv_iload hx hb dX9_loudness_16 (lv_at hl 7 rfl) ?_
    refine lv_ishr hx hb dX9_loudness_18 ?_
    refine lv_iconst (v := 1) hx hb dX9_loudness_19 (by decide) ?_
    refine lv_iand hx hb dX9_loudness_20 ?_
    refine lv_iconst (v := 1) hx hb dX9_loudness_21 (by decide) ?_
    refine lv_icmp_ne (tgt := 52) hx hb dX9_loudness_22 (by decide) (fun hb_2 => ?_) (fun hb_2 => ?_)
    · have hf := zif_f hb_2 hf
      exact k_Valley_loudness_b52 C0 s0 v1 v2 v3 v4 v5 v6 v7 hk6 hP hf _ (lv_sub hl [0, 1, 2, 3, 4, 5, 6, 7] rfl)
    · have hf := zif_t hb_2 hf
      refine lv_aload_n hx hb dX9_loudness_25 rfl (lv_at hl 0 rfl) ?_
      refine zget (v := .ref (a0 5)) hx hb hown hT hK hP inX9 rfl smX9 0 rfl 5 (by decide) tb_110 rfl dX9_loudness_26 ?_
      refine lv_iload hx hb dX9_loudness_29 (lv_at hl 7 rfl) ?_
      obtain ⟨hi3, hf⟩ := zck_some hf
      refine va_iald hx hb hK.1 hP 1 0 rfl rfl hi3 dX9_loudness_31 ?_
      refine lv_iload_n hx hb dX9_loudness_32 rfl (lv_at hl 2 rfl) ?_
      refine lv_icmp_ne (tgt := 52) hx hb dX9_loudness_33 (by decide) (fun hb_4 => ?_) (fun hb_4 => ?_)
      · have hf := zif_f hb_4 hf
        exact k_Valley_loudness_b52 C0 s0 v1 v2 v3 v4 v5 v6 v7 hk6 hP hf _ (lv_sub hl [0, 1, 2, 3, 4, 5, 6, 7] rfl)
      · have hf := zif_t hb_4 hf
        refine lv_iload hx hb dX9_loudness_36 (lv_at hl 6 rfl) ?_
        refine lv_aload_n hx hb dX9_loudness_38 rfl (lv_at hl 0 rfl) ?_
        refine lv_iload hx hb dX9_loudness_39 (lv_at hl 7 rfl) ?_
        refine lv_iload_n hx hb dX9_loudness_41 rfl (lv_at hl 3 rfl) ?_
        refine lv_iload hx hb dX9_loudness_42 (lv_at hl 4 rfl) ?_
        refine lv_iload hx hb dX9_loudness_44 (lv_at hl 5 rfl) ?_
        obtain ⟨z5, hc6, hf⟩ := zbd_some hf
        refine zri (zV (As := [.int v7, .int v3, .int v4, .int v5]) hx hb hml hown hT hl.1 (c_Valley_loudAt o0 a0 s0 v7 v3 v4 v5 hc6) zY_Valley_loudAt tb_848 (zpR hK hP [0, 2, 3] rfl 0 9 rfl rfl rfl) rm_ok_Valley_loudness_Valley_loudAt rfl rfl (Nat.le_of_ble_eq_true rfl) dX9_loudness_46 ⟨Nat.zero_le _, Nat.zero_le _⟩) ?_
        refine lv_iadd hx hb dX9_loudness_49 ?_
        refine lv_istore (lv' := [(6, .int (v6 + z5)), (0, .ref o0), (1, .int v1), (2, .int v2), (3, .int v3), (4, .int v4), (5, .int v5), (7, .int v7)]) hx hb dX9_loudness_50 hl (by decide) rfl (fun ls hl => ?_)
        exact k_Valley_loudness_b52 C0 s0 v1 v2 v3 v4 v5 (v6 + z5) v7 hk6 hP hf _ (lv_sub hl [1, 2, 3, 4, 5, 6, 0, 7] rfl)
set_option maxHeartbeats 4000000 in
set_option maxRecDepth 100000 in
theorem k_Valley_loudness_h6 {p : Program} {l : Launch} {e : Env} {s : State} {m : MethodId} {args : Array Value} {below : List Frame} {meth : Method} {c : Code} {dC : Nat → ClassId} {dI : Nat → Nat → Nat} {cy : Nat → ClassId} {o0 : Nat} {a0 : Nat → Nat} {N : Nat} {y : Int32} (C0 : zCx p s m args meth c cX9_loudness 8 (some .int) RX9 (dC, dI) cy) (s0 : zSt) (v1 : Int32) (v2 : Int32) (v3 : Int32) (v4 : Int32) (v5 : Int32) (hP : va_P (dC, dI) vwCl (wd_Valley_loudness cy o0 a0 (zI s0) (zL s0) (zA s0 5) (zA s0 6) (zA s0 14)) s.heap) : ∀ (n : Nat) (v6 : Int32) (v7 : Int32) (hf : Valley_loudness_h6 N s0 v1 v2 v3 v4 v5 n v6 v7 = some y) (ls : Array Slot) (hl : lv_has ls 8 [(0, .ref o0), (1, .int v1), (2, .int v2), (3, .int v3), (4, .int v4), (5, .int v5), (6, .int v6), (7, .int v7)]), W p l e rm_Valley_loudness s m args below meth c s.heap [] 0 0 (MQ below (zSi y) args s 0 0 (fun _ => False)) (F0 m 6 ls []) := by
  intro n
  induction n with
  | zero => intro v6 v7 hf; cases hf
  | succ n ih =>
    intro v6 v7 hf ls hl
    have hf : Valley_loudness_b6 N (Valley_loudness_h6 N s0 v1 v2 v3 v4 v5 n) s0 v1 v2 v3 v4 v5 v6 v7 = some y := hf
    exact k_Valley_loudness_b6 C0 s0 v1 v2 v3 v4 v5 v6 v7 (fun v6 v7 hf ls hl => ih v6 v7 hf ls hl) hP hf ls hl
set_option maxHeartbeats 4000000 in
set_option maxRecDepth 100000 in
theorem k_Valley_loudness_b0 {p : Program} {l : Launch} {e : Env} {s : State} {m : MethodId} {args : Array Value} {below : List Frame} {meth : Method} {c : Code} {dC : Nat → ClassId} {dI : Nat → Nat → Nat} {cy : Nat → ClassId} {o0 : Nat} {a0 : Nat → Nat} {N : Nat} {y : Int32} (C0 : zCx p s m args meth c cX9_loudness 8 (some .int) RX9 (dC, dI) cy) (s0 : zSt) (v1 : Int32) (v2 : Int32) (v3 : Int32) (v4 : Int32) (v5 : Int32) (hP : va_P (dC, dI) vwCl (wd_Valley_loudness cy o0 a0 (zI s0) (zL s0) (zA s0 5) (zA s0 6) (zA s0 14)) s.heap) (hf : Valley_loudness_b0 N s0 v1 v2 v3 v4 v5 = some y) (ls : Array Slot) (hl : lv_has ls 8 [(0, .ref o0), (1, .int v1), (2, .int v2), (3, .int v3), (4, .int v4), (5, .int v5)]) : W p l e rm_Valley_loudness s m args below meth c s.heap [] 0 0 (MQ below (zSi y) args s 0 0 (fun _ => False)) (F0 m 0 ls []) := by
  obtain ⟨hx, hb, hr, hml, hown, hT, hk, hK⟩ := id C0
  refine lv_iconst (v := 0) hx hb dX9_loudness_0 (by decide) ?_
  refine lv_istore (lv' := [(6, .int 0), (0, .ref o0), (1, .int v1), (2, .int v2), (3, .int v3), (4, .int v4), (5, .int v5)]) hx hb dX9_loudness_1 hl (by decide) rfl (fun ls hl => ?_)
  refine lv_iconst (v := 0) hx hb dX9_loudness_3 (by decide) ?_
  refine lv_istore (lv' := [(7, .int 0), (6, .int 0), (0, .ref o0), (1, .int v1), (2, .int v2), (3, .int v3), (4, .int v4), (5, .int v5)]) hx hb dX9_loudness_4 hl (by decide) rfl (fun ls hl => ?_)
  exact k_Valley_loudness_h6 C0 s0 v1 v2 v3 v4 v5  hP N 0 0 hf _ (lv_sub hl [2, 3, 4, 5, 6, 7, 1, 0] rfl)
set_option maxHeartbeats 4000000 in
set_option maxRecDepth 100000 in
theorem c_Valley_loudness {l : Launch} {dC : Nat → ClassId} {dI : Nat → Nat → Nat} {cy : Nat → ClassId} {N : Nat} (o0 : Nat) (a0 : Nat → Nat) (s0 : zSt) (v1 : Int32) (v2 : Int32) (v3 : Int32) (v4 : Int32) (v5 : Int32) {y : Int32} (hf : Valley_loudness N s0 v1 v2 v3 v4 v5 = some y) : Met l yX9_loudness (.code yX9_loudness cX9_loudness 8 (some .int) :: zt) rm_Valley_loudness (va_Pc [.ref o0, .int v1, .int v2, .int v3, .int v4, .int v5] (zRd (dC, dI) cy (wd_Valley_loudness cy o0 a0 (zI s0) (zL s0) (zA s0 5) (zA s0 6) (zA s0 14)))) (zSi y) 0 0 (fun _ => False) :=
  zentR (by decide +kernel) (Nat.le_of_ble_eq_true rfl) (fun p e s m below meth c C0 hP ls hl => k_Valley_loudness_b0 C0 s0 v1 v2 v3 v4 v5 hP hf ls hl)
def wd_Parting_isSo (cy : Nat → ClassId) (o0 : Nat) (a0 : Nat → Nat) (g0 : Nat → Int32) (h0 : Nat → Int64) (o1 : Nat) (a1 : Nat → Nat) (g1 : Nat → Int32) (h1 : Nat → Int64) (x1_5 : Nat → Int32) (x1_6 : Nat → Int32) (x1_14 : Nat → Int32) (o2 : Nat) (a2 : Nat → Nat) (g2 : Nat → Int32) (h2 : Nat → Int64) (x2_1 : Nat → Int32) (x2_4 : Nat → Int32) (x2_5 : Nat → Int32) : va_W := [(o0, .inr (5, fs_Parting a0 g0 h0)), (o1, .inr (9, fs_Valley a1 g1 h1)), (a1 5, .inl (cy 0, 11, .inl x1_5)), (a1 6, .inl (cy 0, 11, .inl x1_6)), (a1 14, .inl (cy 0, 4, .inl x1_14)), (o2, .inr (0, fs_Bounds a2 g2 h2)), (a2 1, .inl (cy 0, 4, .inl x2_1)), (a2 4, .inl (cy 0, 48, .inl x2_4)), (a2 5, .inl (cy 0, 48, .inl x2_5))]
def rm_Parting_isSo : Room := { frames := 4, cells := 0, slots := 0, locals := 113 }
theorem rm_ok_Parting_isSo_Bounds_allow : rm_Bounds_allow.cells = 0 ∧ rm_Bounds_allow.slots = 0 ∧ rm_Bounds_allow.frames + 1 ≤ rm_Parting_isSo.frames ∧ 8 + (5 + 11) + rm_Bounds_allow.locals ≤ rm_Parting_isSo.locals := by decide
theorem rm_ok_Parting_isSo_Bounds_has : rm_Bounds_has.cells = 0 ∧ rm_Bounds_has.slots = 0 ∧ rm_Bounds_has.frames + 1 ≤ rm_Parting_isSo.frames ∧ 8 + (3 + 11) + rm_Bounds_has.locals ≤ rm_Parting_isSo.locals := by decide
theorem rm_ok_Parting_isSo_Valley_loudness : rm_Valley_loudness.cells = 0 ∧ rm_Valley_loudness.slots = 0 ∧ rm_Valley_loudness.frames + 1 ≤ rm_Parting_isSo.frames ∧ 8 + (8 + 11) + rm_Valley_loudness.locals ≤ rm_Parting_isSo.locals := by decide
set_option maxHeartbeats 4000000 in
set_option maxRecDepth 100000 in
theorem k_Parting_isSo_b111 {p : Program} {l : Launch} {e : Env} {s : State} {m : MethodId} {args : Array Value} {below : List Frame} {meth : Method} {c : Code} {dC : Nat → ClassId} {dI : Nat → Nat → Nat} {cy : Nat → ClassId} {o0 : Nat} {a0 : Nat → Nat} {o1 : Nat} {a1 : Nat → Nat} {o2 : Nat} {a2 : Nat → Nat} {N : Nat} {kh13 : Int32 → Option (Int32)} {y : Int32} (C0 : zCx p s m args meth c cX5_isSo 7 (some .boolean) RX5 (dC, dI) cy) (s0 : zSt) (s1 : zSt) (s2 : zSt) (v1 : Int32) (v4 : Int32) (v5 : Int32) (v6 : Int32) (hk13 : ∀ (v6 : Int32) (_ : kh13 v6 = some y) (ls : Array Slot) (_ : lv_has ls 7 [(0, .ref o0), (1, .int v1), (2, .ref o1), (3, .ref o2), (4, .int v4), (5, .int v5), (6, .int v6)]), W p l e rm_Parting_isSo s m args below meth c s.heap [] 0 0 (MQ below (zSi y) args s 0 0 (fun _ => False)) (F0 m 13 ls [])) (hP : va_P (dC, dI) vwCl (wd_Parting_isSo cy o0 a0 (zI s0) (zL s0) o1 a1 (zI s1) (zL s1) (zA s1 5) (zA s1 6) (zA s1 14) o2 a2 (zI s2) (zL s2) (zA s2 1) (zA s2 4) (zA s2 5)) s.heap) (hf : Parting_isSo_b111 N kh13 s0 s1 s2 v1 v4 v5 v6 = some y) (ls : Array Slot) (hl : lv_has ls 7 [(0, .ref o0), (1, .int v1), (2, .ref o1), (3, .ref o2), (4, .int v4), (5, .int v5), (6, .int v6)]) : W p l e rm_Parting_isSo s m args below meth c s.heap [] 0 0 (MQ below (zSi y) args s 0 0 (fun _ => False)) (F0 m 111 ls []) := by
  obtain ⟨hx, hb, hr, hml, hown, hT, hk, hK⟩ := id C0
  refine lv_iinc (v := v6 + 1) (lv' := [(6, .int (v6 + 1)), (0, .ref o0), (1, .int v1), (2, .ref o1), (3, .ref o2), (4, .int v4), (5, .int v5)]) hx hb dX5_isSo_111 hl (k := 6) rfl rfl (by decide) rfl (fun ls hl => ?_)
  refine lv_goto (tgt := 13) hx hb dX5_isSo_114 (by decide) ?_
  exact hk13 (v6 + 1) hf _ (lv_sub hl [1, 2, 3, 4, 5, 6, 0] rfl)
set_option maxHeartbeats 4000000 in
set_option maxRecDepth 100000 in
theorem k_Parting_isSo_b65 {p : Program} {l : Launch} {e : Env} {s : State} {m : MethodId} {args : Array Value} {below : List Frame} {meth : Method} {c : Code} {dC : Nat → ClassId} {dI : Nat → Nat → Nat} {cy : Nat → ClassId} {o0 : Nat} {a0 : Nat → Nat} {o1 : Nat} {a1 : Nat → Nat} {o2 : Nat} {a2 : Nat → Nat} {N : Nat} {kh13 : Int32 → Option (Int32)} {y : Int32} (C0 : zCx p s m args meth c cX5_isSo 7 (some .boolean) RX5 (dC, dI) cy) (s0 : zSt) (s1 : zSt) (s2 : zSt) (v1 : Int32) (v4 : Int32) (v5 : Int32) (v6 : Int32) (hk13 : ∀ (v6 : Int32) (_ : kh13 v6 = some y) (ls : Array Slot) (_ : lv_has ls 7 [(0, .ref o0), (1, .int v1), (2, .ref o1), (3, .ref o2), (4, .int v4), (5, .int v5), (6, .int v6)]), W p l e rm_Parting_isSo s m args below meth c s.heap [] 0 0 (MQ below (zSi y) args s 0 0 (fun _ => False)) (F0 m 13 ls [])) (hP : va_P (dC, dI) vwCl (wd_Parting_isSo cy o0 a0 (zI s0) (zL s0) o1 a1 (zI s1) (zL s1) (zA s1 5) (zA s1 6) (zA s1 14) o2 a2 (zI s2) (zL s2) (zA s2 1) (zA s2 4) (zA s2 5)) s.heap) (hf : Parting_isSo_b65 N kh13 s0 s1 s2 v1 v4 v5 v6 = some y) (ls : Array Slot) (hl : lv_has ls 7 [(0, .ref o0), (1, .int v1), (2, .ref o1), (3, .ref o2), (4, .int v4), (5, .int v5), (6, .int v6)]) : W p l e rm_Parting_isSo s m args below meth c s.heap [] 0 0 (MQ below (zSi y) args s 0 0 (fun _ => False)) (F0 m 65 ls []) := by
  obtain ⟨hx, hb, hr, hml, hown, hT, hk, hK⟩ := id C0
  refine lv_aload_n hx hb dX5_isSo_65 rfl (lv_at hl 3 rfl) ?_
  refine lv_aload_n hx hb dX5_isSo_66 rfl (lv_at hl 0 rfl) ?_
  refine zget (v := .int (zI s0 3)) hx hb hown hT hK hP inX5 rfl smX5 0 rfl 3 (by decide) tb_340 rfl dX5_isSo_67 ?_
  refine lv_iload hx hb dX5_isSo_70 (lv_at hl 6 rfl) ?_
  obtain ⟨z1, hc2, hf⟩ := zbd_some hf
  refine zri (zV (As := [.int (zI s0 3), .int v6]) hx hb hml hown hT hl.1 (c_Bounds_has o2 a2 s2 (zI s0 3) v6 hc2) zY_Bounds_has tb_843 (zpR hK hP [5, 6] rfl 0 0 rfl rfl rfl) rm_ok_Parting_isSo_Bounds_has rfl rfl (Nat.le_of_ble_eq_true rfl) dX5_isSo_72 ⟨Nat.zero_le _, Nat.zero_le _⟩) ?_
  refine lv_if_eq (tgt := 111) hx hb dX5_isSo_75 (by decide) (fun hb_3 => ?_) (fun hb_3 => ?_)
  · have hf := zif_t hb_3 hf
    exact k_Parting_isSo_b111 C0 s0 s1 s2 v1 v4 v5 v6 hk13 hP hf _ (lv_sub hl [0, 1, 2, 3, 4, 5, 6] rfl)
  · have hf := zif_f hb_3 hf
    refine lv_aload_n hx hb dX5_isSo_78 rfl (lv_at hl 3 rfl) ?_
    refine lv_aload_n hx hb dX5_isSo_79 rfl (lv_at hl 0 rfl) ?_
    refine zget (v := .int (zI s0 3)) hx hb hown hT hK hP inX5 rfl smX5 0 rfl 3 (by decide) tb_340 rfl dX5_isSo_80 ?_
    refine lv_iload hx hb dX5_isSo_83 (lv_at hl 6 rfl) ?_
    refine lv_aload_n hx hb dX5_isSo_85 rfl (lv_at hl 2 rfl) ?_
    refine lv_iload hx hb dX5_isSo_86 (lv_at hl 5 rfl) ?_
    refine lv_iload hx hb dX5_isSo_88 (lv_at hl 6 rfl) ?_
    refine lv_aload_n hx hb dX5_isSo_90 rfl (lv_at hl 0 rfl) ?_
    refine zget (v := .int (zI s0 3)) hx hb hown hT hK hP inX5 rfl smX5 0 rfl 3 (by decide) tb_340 rfl dX5_isSo_91 ?_
    refine lv_aload_n hx hb dX5_isSo_94 rfl (lv_at hl 0 rfl) ?_
    refine zget (v := .int (zI s0 4)) hx hb hown hT hK hP inX5 rfl smX5 0 rfl 4 (by decide) tb_342 rfl dX5_isSo_95 ?_
    refine lv_iload hx hb dX5_isSo_98 (lv_at hl 4 rfl) ?_
    obtain ⟨z4, hc5, hf⟩ := zbd_some hf
    refine zri (zV (As := [.int v5, .int v6, .int (zI s0 3), .int (zI s0 4), .int v4]) hx hb hml hown hT hl.1 (c_Valley_loudness o1 a1 s1 v5 v6 (zI s0 3) (zI s0 4) v4 hc5) zY_Valley_loudness tb_844 (zpR hK hP [1, 2, 3, 4] rfl 0 9 rfl rfl rfl) rm_ok_Parting_isSo_Valley_loudness rfl rfl (Nat.le_of_ble_eq_true rfl) dX5_isSo_100 ⟨Nat.zero_le _, Nat.zero_le _⟩) ?_
    obtain ⟨z6, hc7, hf⟩ := zbd_some hf
    refine zri (zV (As := [.int (zI s0 3), .int v6, .int z4]) hx hb hml hown hT hl.1 (c_Bounds_allow o2 a2 s2 (zI s0 3) v6 z4 hc7) zY_Bounds_allow tb_849 (zpR hK hP [5, 7, 8] rfl 0 0 rfl rfl rfl) rm_ok_Parting_isSo_Bounds_allow rfl rfl (Nat.le_of_ble_eq_true rfl) dX5_isSo_103 ⟨Nat.zero_le _, Nat.zero_le _⟩) ?_
    refine lv_if_ne (tgt := 111) hx hb dX5_isSo_106 (by decide) (fun hb_8 => ?_) (fun hb_8 => ?_)
    · have hf := zif_f hb_8 hf
      exact k_Parting_isSo_b111 C0 s0 s1 s2 v1 v4 v5 v6 hk13 hP hf _ (lv_sub hl [0, 1, 2, 3, 4, 5, 6] rfl)
    · have hf := zif_t hb_8 hf
      refine lv_iconst (v := 0) hx hb dX5_isSo_109 (by decide) ?_
      cases hf
      exact zerz hx hb hr hk (Or.inl rfl) dX5_isSo_110
set_option maxHeartbeats 4000000 in
set_option maxRecDepth 100000 in
theorem k_Parting_isSo_b13 {p : Program} {l : Launch} {e : Env} {s : State} {m : MethodId} {args : Array Value} {below : List Frame} {meth : Method} {c : Code} {dC : Nat → ClassId} {dI : Nat → Nat → Nat} {cy : Nat → ClassId} {o0 : Nat} {a0 : Nat → Nat} {o1 : Nat} {a1 : Nat → Nat} {o2 : Nat} {a2 : Nat → Nat} {N : Nat} {kh13 : Int32 → Option (Int32)} {y : Int32} (C0 : zCx p s m args meth c cX5_isSo 7 (some .boolean) RX5 (dC, dI) cy) (s0 : zSt) (s1 : zSt) (s2 : zSt) (v1 : Int32) (v4 : Int32) (v5 : Int32) (v6 : Int32) (hk13 : ∀ (v6 : Int32) (_ : kh13 v6 = some y) (ls : Array Slot) (_ : lv_has ls 7 [(0, .ref o0), (1, .int v1), (2, .ref o1), (3, .ref o2), (4, .int v4), (5, .int v5), (6, .int v6)]), W p l e rm_Parting_isSo s m args below meth c s.heap [] 0 0 (MQ below (zSi y) args s 0 0 (fun _ => False)) (F0 m 13 ls [])) (hP : va_P (dC, dI) vwCl (wd_Parting_isSo cy o0 a0 (zI s0) (zL s0) o1 a1 (zI s1) (zL s1) (zA s1 5) (zA s1 6) (zA s1 14) o2 a2 (zI s2) (zL s2) (zA s2 1) (zA s2 4) (zA s2 5)) s.heap) (hf : Parting_isSo_b13 N kh13 s0 s1 s2 v1 v4 v5 v6 = some y) (ls : Array Slot) (hl : lv_has ls 7 [(0, .ref o0), (1, .int v1), (2, .ref o1), (3, .ref o2), (4, .int v4), (5, .int v5), (6, .int v6)]) : W p l e rm_Parting_isSo s m args below meth c s.heap [] 0 0 (MQ below (zSi y) args s 0 0 (fun _ => False)) (F0 m 13 ls []) := by
  obtain ⟨hx, hb, hr, hml, hown, hT, hk, hK⟩ := id C0
  refine lv_iload hx hb dX5_isSo_13 (lv_at hl 6 rfl) ?_
  refine lv_bipush (v := 12) hx hb dX5_isSo_15 (by decide) ?_
  refine lv_icmp_ge (tgt := 117) hx hb dX5_isSo_17 (by decide) (fun hb_1 => ?_) (fun hb_1 => ?_)
  · have hf := zif_t hb_1 hf
    refine lv_iconst (v := 1) hx hb dX5_isSo_117 (by decide) ?_
    cases hf
    exact zerz hx hb hr hk (Or.inr rfl) dX5_isSo_118
  · have hf := zif_f hb_1 hf
    refine lv_aload_n hx hb dX5_isSo_20 rfl (lv_at hl 3 rfl) ?_
    refine lv_aload_n hx hb dX5_isSo_21 rfl (lv_at hl 0 rfl) ?_
    refine zget (v := .int (zI s0 1)) hx hb hown hT hK hP inX5 rfl smX5 0 rfl 1 (by decide) tb_336 rfl dX5_isSo_22 ?_
    refine lv_iload hx hb dX5_isSo_25 (lv_at hl 6 rfl) ?_
    obtain ⟨z2, hc3, hf⟩ := zbd_some hf
    refine zri (zV (As := [.int (zI s0 1), .int v6]) hx hb hml hown hT hl.1 (c_Bounds_has o2 a2 s2 (zI s0 1) v6 hc3) zY_Bounds_has tb_843 (zpR hK hP [5, 6] rfl 0 0 rfl rfl rfl) rm_ok_Parting_isSo_Bounds_has rfl rfl (Nat.le_of_ble_eq_true rfl) dX5_isSo_27 ⟨Nat.zero_le _, Nat.zero_le _⟩) ?_
    refine lv_if_eq (tgt := 65) hx hb dX5_isSo_30 (by decide) (fun hb_4 => ?_) (fun hb_4 => ?_)
    · have hf := zif_t hb_4 hf
      exact k_Parting_isSo_b65 C0 s0 s1 s2 v1 v4 v5 v6 hk13 hP hf _ (lv_sub hl [0, 1, 2, 3, 4, 5, 6] rfl)
    · have hf := zif_f hb_4 hf
      refine lv_aload_n hx hb dX5_isSo_33 rfl (lv_at hl 3 rfl) ?_
      refine lv_aload_n hx hb dX5_isSo_34 rfl (lv_at hl 0 rfl) ?_
      refine zget (v := .int (zI s0 1)) hx hb hown hT hK hP inX5 rfl smX5 0 rfl 1 (by decide) tb_336 rfl dX5_isSo_35 ?_
      refine lv_iload hx hb dX5_isSo_38 (lv_at hl 6 rfl) ?_
      refine lv_aload_n hx hb dX5_isSo_40 rfl (lv_at hl 2 rfl) ?_
      refine lv_iload_n hx hb dX5_isSo_41 rfl (lv_at hl 1 rfl) ?_
      refine lv_iload hx hb dX5_isSo_42 (lv_at hl 6 rfl) ?_
      refine lv_aload_n hx hb dX5_isSo_44 rfl (lv_at hl 0 rfl) ?_
      refine zget (v := .int (zI s0 1)) hx hb hown hT hK hP inX5 rfl smX5 0 rfl 1 (by decide) tb_336 rfl dX5_isSo_45 ?_
      refine lv_aload_n hx hb dX5_isSo_48 rfl (lv_at hl 0 rfl) ?_
      refine zget (v := .int (zI s0 2)) hx hb hown hT hK hP inX5 rfl smX5 0 rfl 2 (by decide) tb_338 rfl dX5_isSo_49 ?_
      refine lv_iload hx hb dX5_isSo_52 (lv_at hl 4 rfl) ?_
      obtain ⟨z5, hc6, hf⟩ := zbd_some hf
      refine zri (zV (As := [.int v1, .int v6, .int (zI s0 1), .int (zI s0 2), .int v4]) hx hb hml hown hT hl.1 (c_Valley_loudness o1 a1 s1 v1 v6 (zI s0 1) (zI s0 2) v4 hc6) zY_Valley_loudness tb_844 (zpR hK hP [1, 2, 3, 4] rfl 0 9 rfl rfl rfl) rm_ok_Parting_isSo_Valley_loudness rfl rfl (Nat.le_of_ble_eq_true rfl) dX5_isSo_54 ⟨Nat.zero_le _, Nat.zero_le _⟩) ?_
      obtain ⟨z7, hc8, hf⟩ := zbd_some hf
      refine zri (zV (As := [.int (zI s0 1), .int v6, .int z5]) hx hb hml hown hT hl.1 (c_Bounds_allow o2 a2 s2 (zI s0 1) v6 z5 hc8) zY_Bounds_allow tb_849 (zpR hK hP [5, 7, 8] rfl 0 0 rfl rfl rfl) rm_ok_Parting_isSo_Bounds_allow rfl rfl (Nat.le_of_ble_eq_true rfl) dX5_isSo_57 ⟨Nat.zero_le _, Nat.zero_le _⟩) ?_
      refine lv_if_ne (tgt := 65) hx hb dX5_isSo_60 (by decide) (fun hb_9 => ?_) (fun hb_9 => ?_)
      · have hf := zif_f hb_9 hf
        exact k_Parting_isSo_b65 C0 s0 s1 s2 v1 v4 v5 v6 hk13 hP hf _ (lv_sub hl [0, 1, 2, 3, 4, 5, 6] rfl)
      · have hf := zif_t hb_9 hf
        refine lv_iconst (v := 0) hx hb dX5_isSo_63 (by decide) ?_
        cases hf
        exact zerz hx hb hr hk (Or.inl rfl) dX5_isSo_64
set_option maxHeartbeats 4000000 in
set_option maxRecDepth 100000 in
theorem k_Parting_isSo_h13 {p : Program} {l : Launch} {e : Env} {s : State} {m : MethodId} {args : Array Value} {below : List Frame} {meth : Method} {c : Code} {dC : Nat → ClassId} {dI : Nat → Nat → Nat} {cy : Nat → ClassId} {o0 : Nat} {a0 : Nat → Nat} {o1 : Nat} {a1 : Nat → Nat} {o2 : Nat} {a2 : Nat → Nat} {N : Nat} {y : Int32} (C0 : zCx p s m args meth c cX5_isSo 7 (some .boolean) RX5 (dC, dI) cy) (s0 : zSt) (s1 : zSt) (s2 : zSt) (v1 : Int32) (v4 : Int32) (v5 : Int32) (hP : va_P (dC, dI) vwCl (wd_Parting_isSo cy o0 a0 (zI s0) (zL s0) o1 a1 (zI s1) (zL s1) (zA s1 5) (zA s1 6) (zA s1 14) o2 a2 (zI s2) (zL s2) (zA s2 1) (zA s2 4) (zA s2 5)) s.heap) : ∀ (n : Nat) (v6 : Int32) (hf : Parting_isSo_h13 N s0 s1 s2 v1 v4 v5 n v6 = some y) (ls : Array Slot) (hl : lv_has ls 7 [(0, .ref o0), (1, .int v1), (2, .ref o1), (3, .ref o2), (4, .int v4), (5, .int v5), (6, .int v6)]), W p l e rm_Parting_isSo s m args below meth c s.heap [] 0 0 (MQ below (zSi y) args s 0 0 (fun _ => False)) (F0 m 13 ls []) := by
  intro n
  induction n with
  | zero => intro v6 hf; cases hf
  | succ n ih =>
    intro v6 hf ls hl
    have hf : Parting_isSo_b13 N (Parting_isSo_h13 N s0 s1 s2 v1 v4 v5 n) s0 s1 s2 v1 v4 v5 v6 = some y := hf
    exact k_Parting_isSo_b13 C0 s0 s1 s2 v1 v4 v5 v6 (fun v6 hf ls hl => ih v6 hf ls hl) hP hf ls hl
set_option maxHeartbeats 4000000 in
set_option maxRecDepth 100000 in
theorem k_Parting_isSo_b0 {p : Program} {l : Launch} {e : Env} {s : State} {m : MethodId} {args : Array Value} {below : List Frame} {meth : Method} {c : Code} {dC : Nat → ClassId} {dI : Nat → Nat → Nat} {cy : Nat → ClassId} {o0 : Nat} {a0 : Nat → Nat} {o1 : Nat} {a1 : Nat → Nat} {o2 : Nat} {a2 : Nat → Nat} {N : Nat} {y : Int32} (C0 : zCx p s m args meth c cX5_isSo 7 (some .boolean) RX5 (dC, dI) cy) (s0 : zSt) (s1 : zSt) (s2 : zSt) (v1 : Int32) (v4 : Int32) (hP : va_P (dC, dI) vwCl (wd_Parting_isSo cy o0 a0 (zI s0) (zL s0) o1 a1 (zI s1) (zL s1) (zA s1 5) (zA s1 6) (zA s1 14) o2 a2 (zI s2) (zL s2) (zA s2 1) (zA s2 4) (zA s2 5)) s.heap) (hf : Parting_isSo_b0 N s0 s1 s2 v1 v4 = some y) (ls : Array Slot) (hl : lv_has ls 7 [(0, .ref o0), (1, .int v1), (2, .ref o1), (3, .ref o2), (4, .int v4)]) : W p l e rm_Parting_isSo s m args below meth c s.heap [] 0 0 (MQ below (zSi y) args s 0 0 (fun _ => False)) (F0 m 0 ls []) := by
  obtain ⟨hx, hb, hr, hml, hown, hT, hk, hK⟩ := id C0
  refine lv_aload_n hx hb dX5_isSo_0 rfl (lv_at hl 2 rfl) ?_
  refine zget (v := .int (zI s1 8)) hx hb hown hT hK hP inX9 rfl smX9 1 rfl 8 (by decide) tb_120 rfl dX5_isSo_1 ?_
  refine lv_iload_n hx hb dX5_isSo_4 rfl (lv_at hl 1 rfl) ?_
  refine lv_iconst (v := (-1)) hx hb dX5_isSo_5 (by decide) ?_
  refine lv_ixor hx hb dX5_isSo_6 ?_
  refine lv_iand hx hb dX5_isSo_7 ?_
  refine lv_istore (lv' := [(5, .int ((zI s1 8) &&& (v1 ^^^ (-1)))), (0, .ref o0), (1, .int v1), (2, .ref o1), (3, .ref o2), (4, .int v4)]) hx hb dX5_isSo_8 hl (by decide) rfl (fun ls hl => ?_)
  refine lv_iconst (v := 0) hx hb dX5_isSo_10 (by decide) ?_
  refine lv_istore (lv' := [(6, .int 0), (5, .int ((zI s1 8) &&& (v1 ^^^ (-1)))), (0, .ref o0), (1, .int v1), (2, .ref o1), (3, .ref o2), (4, .int v4)]) hx hb dX5_isSo_11 hl (by decide) rfl (fun ls hl => ?_)
  exact k_Parting_isSo_h13 C0 s0 s1 s2 v1 v4 ((zI s1 8) &&& (v1 ^^^ (-1)))  hP N 0 hf _ (lv_sub hl [2, 3, 4, 5, 6, 1, 0] rfl)
set_option maxHeartbeats 4000000 in
set_option maxRecDepth 100000 in
theorem c_Parting_isSo {l : Launch} {dC : Nat → ClassId} {dI : Nat → Nat → Nat} {cy : Nat → ClassId} {N : Nat} (o0 : Nat) (a0 : Nat → Nat) (s0 : zSt) (o1 : Nat) (a1 : Nat → Nat) (s1 : zSt) (o2 : Nat) (a2 : Nat → Nat) (s2 : zSt) (v1 : Int32) (v4 : Int32) {y : Int32} (hf : Parting_isSo N s0 s1 s2 v1 v4 = some y) : Met l yX5_isSo (.code yX5_isSo cX5_isSo 7 (some .boolean) :: zt) rm_Parting_isSo (va_Pc [.ref o0, .int v1, .ref o1, .ref o2, .int v4] (zRd (dC, dI) cy (wd_Parting_isSo cy o0 a0 (zI s0) (zL s0) o1 a1 (zI s1) (zL s1) (zA s1 5) (zA s1 6) (zA s1 14) o2 a2 (zI s2) (zL s2) (zA s2 1) (zA s2 4) (zA s2 5)))) (zSi y) 0 0 (fun _ => False) :=
  zentR (by decide +kernel) (Nat.le_of_ble_eq_true rfl) (fun p e s m below meth c C0 hP ls hl => k_Parting_isSo_b0 C0 s0 s1 s2 v1 v4 hP hf ls hl)
def wd_Parting_countStrayed (cy : Nat → ClassId) (o0 : Nat) (a0 : Nat → Nat) (g0 : Nat → Int32) (h0 : Nat → Int64) (o1 : Nat) (a1 : Nat → Nat) (g1 : Nat → Int32) (h1 : Nat → Int64) (x1_2 : Nat → Int32) : va_W := [(o0, .inr (5, fs_Parting a0 g0 h0)), (o1, .inr (9, fs_Valley a1 g1 h1)), (a1 2, .inl (cy 0, 3, .inl x1_2))]
def rm_Parting_countStrayed : Room := { frames := 2, cells := 0, slots := 0, locals := 61 }
theorem rm_ok_Parting_countStrayed_Integer_bitCount : rm_Integer_bitCount.cells = 0 ∧ rm_Integer_bitCount.slots = 0 ∧ rm_Integer_bitCount.frames + 1 ≤ rm_Parting_countStrayed.frames ∧ 8 + (1 + 11) + rm_Integer_bitCount.locals ≤ rm_Parting_countStrayed.locals := by decide
theorem rm_ok_Parting_countStrayed_Math_min : rm_Math_min.cells = 0 ∧ rm_Math_min.slots = 0 ∧ rm_Math_min.frames + 1 ≤ rm_Parting_countStrayed.frames ∧ 8 + (2 + 11) + rm_Math_min.locals ≤ rm_Parting_countStrayed.locals := by decide
set_option maxHeartbeats 4000000 in
set_option maxRecDepth 100000 in
theorem k_Parting_countStrayed_b5 {p : Program} {l : Launch} {e : Env} {s : State} {m : MethodId} {args : Array Value} {below : List Frame} {meth : Method} {c : Code} {dC : Nat → ClassId} {dI : Nat → Nat → Nat} {cy : Nat → ClassId} {o0 : Nat} {a0 : Nat → Nat} {o1 : Nat} {a1 : Nat → Nat} {N : Nat} {kh5 : Int32 → Int32 → Option (Int32)} {y : Int32} (C0 : zCx p s m args meth c cX5_countStrayed 7 (some .int) RX5 (dC, dI) cy) (s0 : zSt) (s1 : zSt) (v1 : Int32) (v3 : Int32) (v4 : Int32) (hk5 : ∀ (v3 : Int32) (v4 : Int32) (_ : kh5 v3 v4 = some y) (ls : Array Slot) (_ : lv_has ls 7 [(1, .int v1), (2, .ref o1), (3, .int v3), (4, .int v4)]), W p l e rm_Parting_countStrayed s m args below meth c s.heap [] 0 0 (MQ below (zSi y) args s 0 0 (fun _ => False)) (F0 m 5 ls [])) (hP : va_P (dC, dI) vwCl (wd_Parting_countStrayed cy o0 a0 (zI s0) (zL s0) o1 a1 (zI s1) (zL s1) (zA s1 2)) s.heap) (hf : Parting_countStrayed_b5 N kh5 s0 s1 v1 v3 v4 = some y) (ls : Array Slot) (hl : lv_has ls 7 [(1, .int v1), (2, .ref o1), (3, .int v3), (4, .int v4)]) : W p l e rm_Parting_countStrayed s m args below meth c s.heap [] 0 0 (MQ below (zSi y) args s 0 0 (fun _ => False)) (F0 m 5 ls []) := by
  obtain ⟨hx, hb, hr, hml, hown, hT, hk, hK⟩ := id C0
  refine lv_iload hx hb dX5_countStrayed_5 (lv_at hl 3 rfl) ?_
  refine lv_aload_n hx hb dX5_countStrayed_7 rfl (lv_at hl 1 rfl) ?_
  refine zget (v := .int (zI s1 0)) hx hb hown hT hK hP inX9 rfl smX9 1 rfl 0 (by decide) tb_95 rfl dX5_countStrayed_8 ?_
  refine lv_icmp_ge (tgt := 60) hx hb dX5_countStrayed_11 (by decide) (fun hb_1 => ?_) (fun hb_1 => ?_)
  · have hf := zif_t hb_1 hf
    refine lv_iload_n hx hb dX5_countStrayed_60 rfl (lv_at hl 2 rfl) ?_
    cases hf
    exact zeri hx hb hr hk dX5_countStrayed_61
  · have hf := zif_f hb_1 hf
    refine lv_aload_n hx hb dX5_countStrayed_14 rfl (lv_at hl 1 rfl) ?_
    refine zget (v := .ref (a1 2)) hx hb hown hT hK hP inX9 rfl smX9 1 rfl 2 (by decide) tb_100 rfl dX5_countStrayed_15 ?_
    refine lv_iload hx hb dX5_countStrayed_18 (lv_at hl 3 rfl) ?_
    obtain ⟨hi2, hf⟩ := zck_some hf
    refine va_iald hx hb hK.1 hP 2 0 rfl rfl hi2 dX5_countStrayed_20 ?_
    refine lv_iload_n hx hb dX5_countStrayed_21 rfl (lv_at hl 0 rfl) ?_
    refine lv_iand hx hb dX5_countStrayed_22 ?_
    obtain ⟨z3, hc4, hf⟩ := zbd_some hf
    refine zri (zS (As := [.int (((zA s1 2) (Int32.toNatClampNeg v4)) &&& v1)]) hx hb hml hown hT hl.1 (c_Integer_bitCount (((zA s1 2) (Int32.toNatClampNeg v4)) &&& v1) hc4) zY_Integer_bitCount tb_862 (zpS hK hP [] rfl) rm_ok_Parting_countStrayed_Integer_bitCount rfl rfl (Nat.le_of_ble_eq_true rfl) dX5_countStrayed_23 ⟨Nat.zero_le _, Nat.zero_le _⟩) ?_
    refine lv_istore (lv' := [(5, .int z3), (1, .int v1), (2, .ref o1), (3, .int v3), (4, .int v4)]) hx hb dX5_countStrayed_26 hl (by decide) rfl (fun ls hl => ?_)
    refine lv_aload_n hx hb dX5_countStrayed_28 rfl (lv_at hl 2 rfl) ?_
    refine zget (v := .ref (a1 2)) hx hb hown hT hK hP inX9 rfl smX9 1 rfl 2 (by decide) tb_100 rfl dX5_countStrayed_29 ?_
    refine lv_iload hx hb dX5_countStrayed_32 (lv_at hl 4 rfl) ?_
    obtain ⟨hi5, hf⟩ := zck_some hf
    refine va_iald hx hb hK.1 hP 2 0 rfl rfl hi5 dX5_countStrayed_34 ?_
    refine lv_iload_n hx hb dX5_countStrayed_35 rfl (lv_at hl 1 rfl) ?_
    refine lv_iconst (v := (-1)) hx hb dX5_countStrayed_36 (by decide) ?_
    refine lv_ixor hx hb dX5_countStrayed_37 ?_
    refine lv_iand hx hb dX5_countStrayed_38 ?_
    obtain ⟨z6, hc7, hf⟩ := zbd_some hf
    refine zri (zS (As := [.int (((zA s1 2) (Int32.toNatClampNeg v4)) &&& (v1 ^^^ (-1)))]) hx hb hml hown hT hl.1 (c_Integer_bitCount (((zA s1 2) (Int32.toNatClampNeg v4)) &&& (v1 ^^^ (-1))) hc7) zY_Integer_bitCount tb_862 (zpS hK hP [] rfl) rm_ok_Parting_countStrayed_Integer_bitCount rfl rfl (Nat.le_of_ble_eq_true rfl) dX5_countStrayed_39 ⟨Nat.zero_le _, Nat.zero_le _⟩) ?_
    refine lv_istore (lv' := [(6, .int z6), (5, .int z3), (1, .int v1), (2, .ref o1), (3, .int v3), (4, .int v4)]) hx hb dX5_countStrayed_42 hl (by decide) rfl (fun ls hl => ?_)
    refine lv_iload_n hx hb dX5_countStrayed_44 rfl (lv_at hl 4 rfl) ?_
    refine lv_iload hx hb dX5_countStrayed_45 (lv_at hl 1 rfl) ?_
    refine lv_iload hx hb dX5_countStrayed_47 (lv_at hl 0 rfl) ?_
    obtain ⟨z8, hc9, hf⟩ := zbd_some hf
    refine zri (zS (As := [.int z3, .int z6]) hx hb hml hown hT hl.1 (c_Math_min z3 z6 hc9) zY_Math_min tb_868 (zpS hK hP [] rfl) rm_ok_Parting_countStrayed_Math_min rfl rfl (Nat.le_of_ble_eq_true rfl) dX5_countStrayed_49 ⟨Nat.zero_le _, Nat.zero_le _⟩) ?_
    refine lv_iadd hx hb dX5_countStrayed_52 ?_
    refine lv_istore_n (lv' := [(3, .int (v3 + z8)), (6, .int z6), (5, .int z3), (1, .int v1), (2, .ref o1), (4, .int v4)]) hx hb dX5_countStrayed_53 rfl hl (by decide) rfl (fun ls hl => ?_)
    refine lv_iinc (v := v4 + 1) (lv' := [(4, .int (v4 + 1)), (3, .int (v3 + z8)), (6, .int z6), (5, .int z3), (1, .int v1), (2, .ref o1)]) hx hb dX5_countStrayed_54 hl (k := 5) rfl rfl (by decide) rfl (fun ls hl => ?_)
    refine lv_goto (tgt := 5) hx hb dX5_countStrayed_57 (by decide) ?_
    exact hk5 (v3 + z8) (v4 + 1) hf _ (lv_sub hl [4, 5, 1, 0] rfl)
set_option maxHeartbeats 4000000 in
set_option maxRecDepth 100000 in
theorem k_Parting_countStrayed_h5 {p : Program} {l : Launch} {e : Env} {s : State} {m : MethodId} {args : Array Value} {below : List Frame} {meth : Method} {c : Code} {dC : Nat → ClassId} {dI : Nat → Nat → Nat} {cy : Nat → ClassId} {o0 : Nat} {a0 : Nat → Nat} {o1 : Nat} {a1 : Nat → Nat} {N : Nat} {y : Int32} (C0 : zCx p s m args meth c cX5_countStrayed 7 (some .int) RX5 (dC, dI) cy) (s0 : zSt) (s1 : zSt) (v1 : Int32) (hP : va_P (dC, dI) vwCl (wd_Parting_countStrayed cy o0 a0 (zI s0) (zL s0) o1 a1 (zI s1) (zL s1) (zA s1 2)) s.heap) : ∀ (n : Nat) (v3 : Int32) (v4 : Int32) (hf : Parting_countStrayed_h5 N s0 s1 v1 n v3 v4 = some y) (ls : Array Slot) (hl : lv_has ls 7 [(1, .int v1), (2, .ref o1), (3, .int v3), (4, .int v4)]), W p l e rm_Parting_countStrayed s m args below meth c s.heap [] 0 0 (MQ below (zSi y) args s 0 0 (fun _ => False)) (F0 m 5 ls []) := by
  intro n
  induction n with
  | zero => intro v3 v4 hf; cases hf
  | succ n ih =>
    intro v3 v4 hf ls hl
    have hf : Parting_countStrayed_b5 N (Parting_countStrayed_h5 N s0 s1 v1 n) s0 s1 v1 v3 v4 = some y := hf
    exact k_Parting_countStrayed_b5 C0 s0 s1 v1 v3 v4 (fun v3 v4 hf ls hl => ih v3 v4 hf ls hl) hP hf ls hl
set_option maxHeartbeats 4000000 in
set_option maxRecDepth 100000 in
theorem k_Parting_countStrayed_b0 {p : Program} {l : Launch} {e : Env} {s : State} {m : MethodId} {args : Array Value} {below : List Frame} {meth : Method} {c : Code} {dC : Nat → ClassId} {dI : Nat → Nat → Nat} {cy : Nat → ClassId} {o0 : Nat} {a0 : Nat → Nat} {o1 : Nat} {a1 : Nat → Nat} {N : Nat} {y : Int32} (C0 : zCx p s m args meth c cX5_countStrayed 7 (some .int) RX5 (dC, dI) cy) (s0 : zSt) (s1 : zSt) (v1 : Int32) (hP : va_P (dC, dI) vwCl (wd_Parting_countStrayed cy o0 a0 (zI s0) (zL s0) o1 a1 (zI s1) (zL s1) (zA s1 2)) s.heap) (hf : Parting_countStrayed_b0 N s0 s1 v1 = some y) (ls : Array Slot) (hl : lv_has ls 7 [(0, .ref o0), (1, .int v1), (2, .ref o1)]) : W p l e rm_Parting_countStrayed s m args below meth c s.heap [] 0 0 (MQ below (zSi y) args s 0 0 (fun _ => False)) (F0 m 0 ls []) := by
  obtain ⟨hx, hb, hr, hml, hown, hT, hk, hK⟩ := id C0
  refine lv_iconst (v := 0) hx hb dX5_countStrayed_0 (by decide) ?_
  refine lv_istore_n (lv' := [(3, .int 0), (0, .ref o0), (1, .int v1), (2, .ref o1)]) hx hb dX5_countStrayed_1 rfl hl (by decide) rfl (fun ls hl => ?_)
  refine lv_iconst (v := 0) hx hb dX5_countStrayed_2 (by decide) ?_
  refine lv_istore (lv' := [(4, .int 0), (3, .int 0), (0, .ref o0), (1, .int v1), (2, .ref o1)]) hx hb dX5_countStrayed_3 hl (by decide) rfl (fun ls hl => ?_)
  exact k_Parting_countStrayed_h5 C0 s0 s1 v1  hP N 0 0 hf _ (lv_sub hl [3, 4, 1, 0] rfl)
set_option maxHeartbeats 4000000 in
set_option maxRecDepth 100000 in
theorem c_Parting_countStrayed {l : Launch} {dC : Nat → ClassId} {dI : Nat → Nat → Nat} {cy : Nat → ClassId} {N : Nat} (o0 : Nat) (a0 : Nat → Nat) (s0 : zSt) (o1 : Nat) (a1 : Nat → Nat) (s1 : zSt) (v1 : Int32) {y : Int32} (hf : Parting_countStrayed N s0 s1 v1 = some y) : Met l yX5_countStrayed (.code yX5_countStrayed cX5_countStrayed 7 (some .int) :: zt) rm_Parting_countStrayed (va_Pc [.ref o0, .int v1, .ref o1] (zRd (dC, dI) cy (wd_Parting_countStrayed cy o0 a0 (zI s0) (zL s0) o1 a1 (zI s1) (zL s1) (zA s1 2)))) (zSi y) 0 0 (fun _ => False) :=
  zentR (by decide +kernel) (Nat.le_of_ble_eq_true rfl) (fun p e s m below meth c C0 hP ls hl => k_Parting_countStrayed_b0 C0 s0 s1 v1 hP hf ls hl)
def wd_Parting_gather (cy : Nat → ClassId) (o0 : Nat) (a0 : Nat → Nat) (g0 : Nat → Int32) (h0 : Nat → Int64) (o1 : Nat) (a1 : Nat → Nat) (g1 : Nat → Int32) (h1 : Nat → Int64) (x1_2 : Nat → Int32) : va_W := [(o0, .inr (5, fs_Parting a0 g0 h0)), (o1, .inr (9, fs_Valley a1 g1 h1)), (a1 2, .inl (cy 0, 3, .inl x1_2))]
def rm_Parting_gather : Room := { frames := 3, cells := 0, slots := 0, locals := 87 }
theorem rm_ok_Parting_gather_Parting_countStrayed : rm_Parting_countStrayed.cells = 0 ∧ rm_Parting_countStrayed.slots = 0 ∧ rm_Parting_countStrayed.frames + 1 ≤ rm_Parting_gather.frames ∧ 8 + (7 + 11) + rm_Parting_countStrayed.locals ≤ rm_Parting_gather.locals := by decide
set_option maxHeartbeats 4000000 in
set_option maxRecDepth 100000 in
theorem k_Parting_gather_b55 {p : Program} {l : Launch} {e : Env} {s : State} {m : MethodId} {args : Array Value} {below : List Frame} {meth : Method} {c : Code} {dC : Nat → ClassId} {dI : Nat → Nat → Nat} {cy : Nat → ClassId} {A : Nat → Prop} {o0 : Nat} {a0 : Nat → Nat} {o1 : Nat} {a1 : Nat → Nat} {N : Nat} {y : zSt} (C0 : zCx p s m args meth c cX5_gather 4 none RX5 (dC, dI) cy) (s0 : zSt) (s1 : zSt) (v1 : Int32) (v3 : Int32) (hA : ∀ q, s.heap.size ≤ q → A q) {H : Heap} {locs : List Loc} (hP : va_P (dC, dI) vwCl (wd_Parting_gather cy o0 a0 (zI s0) (zL s0) o1 a1 (zI s1) (zL s1) (zA s1 2)) H) (hD : va_D A (wd_Parting_gather cy o0 a0 (zI s0) (zL s0) o1 a1 (zI s1) (zL s1) (zA s1 2))) (hS : va_S A s.heap H locs) (hf : Parting_gather_b55 N s0 s1 v1 v3 = some y) (ls : Array Slot) (hl : lv_has ls 4 [(0, .ref o0), (1, .int v1), (3, .int v3)]) : W p l e rm_Parting_gather s m args below meth c H locs 0 0 (MQ below (zQv (dC, dI) cy (wd_Parting_gather cy o0 a0 (zI y) (zL y) o1 a1 (zI s1) (zL s1) (zA s1 2)) A) args s 0 0 A) (F0 m 55 ls []) := by
  obtain ⟨hx, hb, hr, hml, hown, hT, hk, hK⟩ := id C0
  refine lv_aload_n hx hb dX5_gather_55 rfl (lv_at hl 0 rfl) ?_
  refine lv_iload_n hx hb dX5_gather_56 rfl (lv_at hl 2 rfl) ?_
  refine zput (fs' := fs_Parting a0 (upd (zI s0) 9 v3) (zL s0)) (ws' := (wd_Parting_gather cy o0 a0 (upd (zI s0) 9 v3) (zL s0) o1 a1 (zI s1) (zL s1) (zA s1 2))) hx hb hown hT hK hP hD hS inX5 rfl smX5 tyX5_ok nmX5 0 rfl 9 (by decide) tb_351 rfl rfl rfl (Nat.le_of_ble_eq_true rfl) rfl rfl dX5_gather_57 (fun H locs hP hD hS => ?_)
  refine lv_aload_n hx hb dX5_gather_60 rfl (lv_at hl 0 rfl) ?_
  refine lv_iload_n hx hb dX5_gather_61 rfl (lv_at hl 1 rfl) ?_
  refine zput (fs' := fs_Parting a0 (upd (upd (zI s0) 9 v3) 10 v1) (zL s0)) (ws' := (wd_Parting_gather cy o0 a0 (upd (upd (zI s0) 9 v3) 10 v1) (zL s0) o1 a1 (zI s1) (zL s1) (zA s1 2))) hx hb hown hT hK hP hD hS inX5 rfl smX5 tyX5_ok nmX5 0 rfl 10 (by decide) tb_353 rfl rfl rfl (Nat.le_of_ble_eq_true rfl) rfl rfl dX5_gather_62 (fun H locs hP hD hS => ?_)
  cases hf
  exact zewv hx hb hr hk hK hP hD hS dX5_gather_65
set_option maxHeartbeats 4000000 in
set_option maxRecDepth 100000 in
theorem k_Parting_gather_b0 {p : Program} {l : Launch} {e : Env} {s : State} {m : MethodId} {args : Array Value} {below : List Frame} {meth : Method} {c : Code} {dC : Nat → ClassId} {dI : Nat → Nat → Nat} {cy : Nat → ClassId} {A : Nat → Prop} {o0 : Nat} {a0 : Nat → Nat} {o1 : Nat} {a1 : Nat → Nat} {N : Nat} {y : zSt} (C0 : zCx p s m args meth c cX5_gather 4 none RX5 (dC, dI) cy) (s0 : zSt) (s1 : zSt) (v1 : Int32) (hA : ∀ q, s.heap.size ≤ q → A q) {H : Heap} {locs : List Loc} (hP : va_P (dC, dI) vwCl (wd_Parting_gather cy o0 a0 (zI s0) (zL s0) o1 a1 (zI s1) (zL s1) (zA s1 2)) H) (hD : va_D A (wd_Parting_gather cy o0 a0 (zI s0) (zL s0) o1 a1 (zI s1) (zL s1) (zA s1 2))) (hS : va_S A s.heap H locs) (hf : Parting_gather_b0 N s0 s1 v1 = some y) (ls : Array Slot) (hl : lv_has ls 4 [(0, .ref o0), (1, .int v1), (2, .ref o1)]) : W p l e rm_Parting_gather s m args below meth c H locs 0 0 (MQ below (zQv (dC, dI) cy (wd_Parting_gather cy o0 a0 (zI y) (zL y) o1 a1 (zI s1) (zL s1) (zA s1 2)) A) args s 0 0 A) (F0 m 0 ls []) := by
  obtain ⟨hx, hb, hr, hml, hown, hT, hk, hK⟩ := id C0
  refine lv_aload_n hx hb dX5_gather_0 rfl (lv_at hl 0 rfl) ?_
  refine lv_dup hx hb dX5_gather_1 rfl ?_
  refine zget (v := .int (zI s0 6)) hx hb hown hT hK hP inX5 rfl smX5 0 rfl 6 (by decide) tb_345 rfl dX5_gather_2 ?_
  refine lv_iconst (v := 1) hx hb dX5_gather_5 (by decide) ?_
  refine lv_iadd hx hb dX5_gather_6 ?_
  refine zput (fs' := fs_Parting a0 (upd (zI s0) 6 ((zI s0 6) + 1)) (zL s0)) (ws' := (wd_Parting_gather cy o0 a0 (upd (zI s0) 6 ((zI s0 6) + 1)) (zL s0) o1 a1 (zI s1) (zL s1) (zA s1 2))) hx hb hown hT hK hP hD hS inX5 rfl smX5 tyX5_ok nmX5 0 rfl 6 (by decide) tb_345 rfl rfl rfl (Nat.le_of_ble_eq_true rfl) rfl rfl dX5_gather_7 (fun H locs hP hD hS => ?_)
  refine lv_aload_n hx hb dX5_gather_10 rfl (lv_at hl 0 rfl) ?_
  refine lv_dup hx hb dX5_gather_11 rfl ?_
  refine zget (v := .int (zI s0 7)) hx hb hown hT hK hP inX5 rfl smX5 0 rfl 7 (by decide) tb_347 rfl dX5_gather_12 ?_
  refine lv_iload_n hx hb dX5_gather_15 rfl (lv_at hl 1 rfl) ?_
  refine lv_iand hx hb dX5_gather_16 ?_
  refine zput (fs' := fs_Parting a0 (upd (upd (zI s0) 6 ((zI s0 6) + 1)) 7 ((zI s0 7) &&& v1)) (zL s0)) (ws' := (wd_Parting_gather cy o0 a0 (upd (upd (zI s0) 6 ((zI s0 6) + 1)) 7 ((zI s0 7) &&& v1)) (zL s0) o1 a1 (zI s1) (zL s1) (zA s1 2))) hx hb hown hT hK hP hD hS inX5 rfl smX5 tyX5_ok nmX5 0 rfl 7 (by decide) tb_347 rfl rfl rfl (Nat.le_of_ble_eq_true rfl) rfl rfl dX5_gather_17 (fun H locs hP hD hS => ?_)
  refine lv_aload_n hx hb dX5_gather_20 rfl (lv_at hl 0 rfl) ?_
  refine lv_dup hx hb dX5_gather_21 rfl ?_
  refine zget (v := .int (zI s0 8)) hx hb hown hT hK hP inX5 rfl smX5 0 rfl 8 (by decide) tb_349 rfl dX5_gather_22 ?_
  refine lv_iload_n hx hb dX5_gather_25 rfl (lv_at hl 1 rfl) ?_
  refine lv_iconst (v := (-1)) hx hb dX5_gather_26 (by decide) ?_
  refine lv_ixor hx hb dX5_gather_27 ?_
  refine lv_iand hx hb dX5_gather_28 ?_
  refine zput (fs' := fs_Parting a0 (upd (upd (upd (zI s0) 6 ((zI s0 6) + 1)) 7 ((zI s0 7) &&& v1)) 8 ((zI s0 8) &&& (v1 ^^^ (-1)))) (zL s0)) (ws' := (wd_Parting_gather cy o0 a0 (upd (upd (upd (zI s0) 6 ((zI s0 6) + 1)) 7 ((zI s0 7) &&& v1)) 8 ((zI s0 8) &&& (v1 ^^^ (-1)))) (zL s0) o1 a1 (zI s1) (zL s1) (zA s1 2))) hx hb hown hT hK hP hD hS inX5 rfl smX5 tyX5_ok nmX5 0 rfl 8 (by decide) tb_349 rfl rfl rfl (Nat.le_of_ble_eq_true rfl) rfl rfl dX5_gather_29 (fun H locs hP hD hS => ?_)
  refine lv_aload_n hx hb dX5_gather_32 rfl (lv_at hl 0 rfl) ?_
  refine lv_iload_n hx hb dX5_gather_33 rfl (lv_at hl 1 rfl) ?_
  refine lv_aload_n hx hb dX5_gather_34 rfl (lv_at hl 2 rfl) ?_
  obtain ⟨z1, hc2, hf⟩ := zbd_some hf
  refine zri (zV (As := [.int v1, .ref o1]) hx hb hml hown hT hl.1 (c_Parting_countStrayed o0 a0 (zpI (zpI (zpI s0 6 ((zI s0 6) + 1)) 7 ((zI s0 7) &&& v1)) 8 ((zI s0 8) &&& (v1 ^^^ (-1)))) o1 a1 s1 v1 hc2) zY_Parting_countStrayed tb_858 (zpR hK hP [0, 1, 2] rfl 0 5 rfl rfl rfl) rm_ok_Parting_gather_Parting_countStrayed rfl rfl (Nat.le_of_ble_eq_true rfl) dX5_gather_35 ⟨Nat.zero_le _, Nat.zero_le _⟩) ?_
  refine lv_istore_n (lv' := [(3, .int z1), (0, .ref o0), (1, .int v1), (2, .ref o1)]) hx hb dX5_gather_38 rfl hl (by decide) rfl (fun ls hl => ?_)
  refine lv_aload_n hx hb dX5_gather_39 rfl (lv_at hl 1 rfl) ?_
  refine zget (v := .int (zI s0 9)) hx hb hown hT hK hP inX5 rfl smX5 0 rfl 9 (by decide) tb_351 rfl dX5_gather_40 ?_
  refine lv_iconst (v := (-1)) hx hb dX5_gather_43 (by decide) ?_
  refine lv_icmp_eq (tgt := 55) hx hb dX5_gather_44 (by decide) (fun hb_3 => ?_) (fun hb_3 => ?_)
  · have hf := zif_t hb_3 hf
    exact k_Parting_gather_b55 C0 (zpI (zpI (zpI s0 6 ((zI s0 6) + 1)) 7 ((zI s0 7) &&& v1)) 8 ((zI s0 8) &&& (v1 ^^^ (-1)))) s1 v1 z1  hA hP hD hS hf _ (lv_sub hl [1, 2, 0] rfl)
  · have hf := zif_f hb_3 hf
    refine lv_iload_n hx hb dX5_gather_47 rfl (lv_at hl 0 rfl) ?_
    refine lv_aload_n hx hb dX5_gather_48 rfl (lv_at hl 1 rfl) ?_
    refine zget (v := .int (zI s0 9)) hx hb hown hT hK hP inX5 rfl smX5 0 rfl 9 (by decide) tb_351 rfl dX5_gather_49 ?_
    refine lv_icmp_ge (tgt := 65) hx hb dX5_gather_52 (by decide) (fun hb_4 => ?_) (fun hb_4 => ?_)
    · have hf := zif_t hb_4 hf
      cases hf
      exact zewv hx hb hr hk hK hP hD hS dX5_gather_65
    · have hf := zif_f hb_4 hf
      exact k_Parting_gather_b55 C0 (zpI (zpI (zpI s0 6 ((zI s0 6) + 1)) 7 ((zI s0 7) &&& v1)) 8 ((zI s0 8) &&& (v1 ^^^ (-1)))) s1 v1 z1  hA hP hD hS hf _ (lv_sub hl [1, 2, 0] rfl)
set_option maxHeartbeats 4000000 in
set_option maxRecDepth 100000 in
theorem c_Parting_gather {l : Launch} {dC : Nat → ClassId} {dI : Nat → Nat → Nat} {cy : Nat → ClassId} {sz : Nat} {N : Nat} (o0 : Nat) (a0 : Nat → Nat) (s0 : zSt) (o1 : Nat) (a1 : Nat → Nat) (s1 : zSt) (v1 : Int32) {y : zSt} (hf : Parting_gather N s0 s1 v1 = some y) : Met l yX5_gather (.code yX5_gather cX5_gather 4 none :: zt) rm_Parting_gather (va_Pc [.ref o0, .int v1, .ref o1] (zPre (dC, dI) cy (wd_Parting_gather cy o0 a0 (zI s0) (zL s0) o1 a1 (zI s1) (zL s1) (zA s1 2)) sz)) (zQv (dC, dI) cy (wd_Parting_gather cy o0 a0 (zI y) (zL y) o1 a1 (zI s1) (zL s1) (zA s1 2)) (va_A (wd_Parting_gather cy o0 a0 (zI s0) (zL s0) o1 a1 (zI s1) (zL s1) (zA s1 2)) sz)) 0 0 (va_A (wd_Parting_gather cy o0 a0 (zI s0) (zL s0) o1 a1 (zI s1) (zL s1) (zA s1 2)) sz) :=
  zentW (Qw := fun A => (zQv (dC, dI) cy (wd_Parting_gather cy o0 a0 (zI y) (zL y) o1 a1 (zI s1) (zL s1) (zA s1 2)) A)) (by decide +kernel) (Nat.le_of_ble_eq_true rfl) (fun p e s m below meth c A C0 hA hP hD hS ls hl => k_Parting_gather_b0 C0 s0 s1 v1 hA hP hD hS hf ls hl)
def wd_Parting_seek (cy : Nat → ClassId) (o0 : Nat) (a0 : Nat → Nat) (g0 : Nat → Int32) (h0 : Nat → Int64) (o1 : Nat) (a1 : Nat → Nat) (g1 : Nat → Int32) (h1 : Nat → Int64) (x1_2 : Nat → Int32) (x1_5 : Nat → Int32) (x1_6 : Nat → Int32) (x1_14 : Nat → Int32) (o2 : Nat) (a2 : Nat → Nat) (g2 : Nat → Int32) (h2 : Nat → Int64) (x2_1 : Nat → Int32) (x2_4 : Nat → Int32) (x2_5 : Nat → Int32) : va_W := [(o0, .inr (5, fs_Parting a0 g0 h0)), (o1, .inr (9, fs_Valley a1 g1 h1)), (a1 2, .inl (cy 0, 3, .inl x1_2)), (a1 5, .inl (cy 0, 11, .inl x1_5)), (a1 6, .inl (cy 0, 11, .inl x1_6)), (a1 14, .inl (cy 0, 4, .inl x1_14)), (o2, .inr (0, fs_Bounds a2 g2 h2)), (a2 1, .inl (cy 0, 4, .inl x2_1)), (a2 4, .inl (cy 0, 48, .inl x2_4)), (a2 5, .inl (cy 0, 48, .inl x2_5))]
def rm_Parting_seek : Room := { frames := 5, cells := 0, slots := 0, locals := 139 }
theorem rm_ok_Parting_seek_Parting_gather : rm_Parting_gather.cells = 0 ∧ rm_Parting_gather.slots = 0 ∧ rm_Parting_gather.frames + 1 ≤ rm_Parting_seek.frames ∧ 8 + (4 + 11) + rm_Parting_gather.locals ≤ rm_Parting_seek.locals := by decide
theorem rm_ok_Parting_seek_Parting_isSo : rm_Parting_isSo.cells = 0 ∧ rm_Parting_isSo.slots = 0 ∧ rm_Parting_isSo.frames + 1 ≤ rm_Parting_seek.frames ∧ 8 + (7 + 11) + rm_Parting_isSo.locals ≤ rm_Parting_seek.locals := by decide
set_option maxHeartbeats 4000000 in
set_option maxRecDepth 100000 in
theorem k_Parting_seek_b74 {p : Program} {l : Launch} {e : Env} {s : State} {m : MethodId} {args : Array Value} {below : List Frame} {meth : Method} {c : Code} {dC : Nat → ClassId} {dI : Nat → Nat → Nat} {cy : Nat → ClassId} {A : Nat → Prop} {o0 : Nat} {a0 : Nat → Nat} {o1 : Nat} {a1 : Nat → Nat} {o2 : Nat} {a2 : Nat → Nat} {N : Nat} {kh34 : zSt → Int32 → Option (zSt)} {y : zSt} (C0 : zCx p s m args meth c cX5_seek 5 none RX5 (dC, dI) cy) (s0 : zSt) (s1 : zSt) (s2 : zSt) (v3 : Int32) (v4 : Int32) (hk34 : ∀ (s0 : zSt) (v4 : Int32) {H : Heap} {locs : List Loc} (_ : va_P (dC, dI) vwCl (wd_Parting_seek cy o0 a0 (zI s0) (zL s0) o1 a1 (zI s1) (zL s1) (zA s1 2) (zA s1 5) (zA s1 6) (zA s1 14) o2 a2 (zI s2) (zL s2) (zA s2 1) (zA s2 4) (zA s2 5)) H) (_ : va_D A (wd_Parting_seek cy o0 a0 (zI s0) (zL s0) o1 a1 (zI s1) (zL s1) (zA s1 2) (zA s1 5) (zA s1 6) (zA s1 14) o2 a2 (zI s2) (zL s2) (zA s2 1) (zA s2 4) (zA s2 5))) (_ : va_S A s.heap H locs) (_ : kh34 s0 v4 = some y) (ls : Array Slot) (_ : lv_has ls 5 [(0, .ref o0), (1, .ref o1), (2, .ref o2), (3, .int v3), (4, .int v4)]), W p l e rm_Parting_seek s m args below meth c H locs 0 0 (MQ below (zQv (dC, dI) cy (wd_Parting_seek cy o0 a0 (zI y) (zL y) o1 a1 (zI s1) (zL s1) (zA s1 2) (zA s1 5) (zA s1 6) (zA s1 14) o2 a2 (zI s2) (zL s2) (zA s2 1) (zA s2 4) (zA s2 5)) A) args s 0 0 A) (F0 m 34 ls [])) (hA : ∀ q, s.heap.size ≤ q → A q) {H : Heap} {locs : List Loc} (hP : va_P (dC, dI) vwCl (wd_Parting_seek cy o0 a0 (zI s0) (zL s0) o1 a1 (zI s1) (zL s1) (zA s1 2) (zA s1 5) (zA s1 6) (zA s1 14) o2 a2 (zI s2) (zL s2) (zA s2 1) (zA s2 4) (zA s2 5)) H) (hD : va_D A (wd_Parting_seek cy o0 a0 (zI s0) (zL s0) o1 a1 (zI s1) (zL s1) (zA s1 2) (zA s1 5) (zA s1 6) (zA s1 14) o2 a2 (zI s2) (zL s2) (zA s2 1) (zA s2 4) (zA s2 5))) (hS : va_S A s.heap H locs) (hf : Parting_seek_b74 N kh34 s0 s1 s2 v3 v4 = some y) (ls : Array Slot) (hl : lv_has ls 5 [(0, .ref o0), (1, .ref o1), (2, .ref o2), (3, .int v3), (4, .int v4)]) : W p l e rm_Parting_seek s m args below meth c H locs 0 0 (MQ below (zQv (dC, dI) cy (wd_Parting_seek cy o0 a0 (zI y) (zL y) o1 a1 (zI s1) (zL s1) (zA s1 2) (zA s1 5) (zA s1 6) (zA s1 14) o2 a2 (zI s2) (zL s2) (zA s2 1) (zA s2 4) (zA s2 5)) A) args s 0 0 A) (F0 m 74 ls []) := by
  obtain ⟨hx, hb, hr, hml, hown, hT, hk, hK⟩ := id C0
  refine lv_iinc (v := v4 + 1) (lv' := [(4, .int (v4 + 1)), (0, .ref o0), (1, .ref o1), (2, .ref o2), (3, .int v3)]) hx hb dX5_seek_74 hl (k := 4) rfl rfl (by decide) rfl (fun ls hl => ?_)
  refine lv_goto (tgt := 34) hx hb dX5_seek_77 (by decide) ?_
  exact hk34 s0 (v4 + 1) hP hD hS hf _ (lv_sub hl [1, 2, 3, 4, 0] rfl)
set_option maxHeartbeats 4000000 in
set_option maxRecDepth 100000 in
theorem k_Parting_seek_b34 {p : Program} {l : Launch} {e : Env} {s : State} {m : MethodId} {args : Array Value} {below : List Frame} {meth : Method} {c : Code} {dC : Nat → ClassId} {dI : Nat → Nat → Nat} {cy : Nat → ClassId} {A : Nat → Prop} {o0 : Nat} {a0 : Nat → Nat} {o1 : Nat} {a1 : Nat → Nat} {o2 : Nat} {a2 : Nat → Nat} {N : Nat} {kh34 : zSt → Int32 → Option (zSt)} {y : zSt} (C0 : zCx p s m args meth c cX5_seek 5 none RX5 (dC, dI) cy) (s0 : zSt) (s1 : zSt) (s2 : zSt) (v3 : Int32) (v4 : Int32) (hk34 : ∀ (s0 : zSt) (v4 : Int32) {H : Heap} {locs : List Loc} (_ : va_P (dC, dI) vwCl (wd_Parting_seek cy o0 a0 (zI s0) (zL s0) o1 a1 (zI s1) (zL s1) (zA s1 2) (zA s1 5) (zA s1 6) (zA s1 14) o2 a2 (zI s2) (zL s2) (zA s2 1) (zA s2 4) (zA s2 5)) H) (_ : va_D A (wd_Parting_seek cy o0 a0 (zI s0) (zL s0) o1 a1 (zI s1) (zL s1) (zA s1 2) (zA s1 5) (zA s1 6) (zA s1 14) o2 a2 (zI s2) (zL s2) (zA s2 1) (zA s2 4) (zA s2 5))) (_ : va_S A s.heap H locs) (_ : kh34 s0 v4 = some y) (ls : Array Slot) (_ : lv_has ls 5 [(0, .ref o0), (1, .ref o1), (2, .ref o2), (3, .int v3), (4, .int v4)]), W p l e rm_Parting_seek s m args below meth c H locs 0 0 (MQ below (zQv (dC, dI) cy (wd_Parting_seek cy o0 a0 (zI y) (zL y) o1 a1 (zI s1) (zL s1) (zA s1 2) (zA s1 5) (zA s1 6) (zA s1 14) o2 a2 (zI s2) (zL s2) (zA s2 1) (zA s2 4) (zA s2 5)) A) args s 0 0 A) (F0 m 34 ls [])) (hA : ∀ q, s.heap.size ≤ q → A q) {H : Heap} {locs : List Loc} (hP : va_P (dC, dI) vwCl (wd_Parting_seek cy o0 a0 (zI s0) (zL s0) o1 a1 (zI s1) (zL s1) (zA s1 2) (zA s1 5) (zA s1 6) (zA s1 14) o2 a2 (zI s2) (zL s2) (zA s2 1) (zA s2 4) (zA s2 5)) H) (hD : va_D A (wd_Parting_seek cy o0 a0 (zI s0) (zL s0) o1 a1 (zI s1) (zL s1) (zA s1 2) (zA s1 5) (zA s1 6) (zA s1 14) o2 a2 (zI s2) (zL s2) (zA s2 1) (zA s2 4) (zA s2 5))) (hS : va_S A s.heap H locs) (hf : Parting_seek_b34 N kh34 s0 s1 s2 v3 v4 = some y) (ls : Array Slot) (hl : lv_has ls 5 [(0, .ref o0), (1, .ref o1), (2, .ref o2), (3, .int v3), (4, .int v4)]) : W p l e rm_Parting_seek s m args below meth c H locs 0 0 (MQ below (zQv (dC, dI) cy (wd_Parting_seek cy o0 a0 (zI y) (zL y) o1 a1 (zI s1) (zL s1) (zA s1 2) (zA s1 5) (zA s1 6) (zA s1 14) o2 a2 (zI s2) (zL s2) (zA s2 1) (zA s2 4) (zA s2 5)) A) args s 0 0 A) (F0 m 34 ls []) := by
  obtain ⟨hx, hb, hr, hml, hown, hT, hk, hK⟩ := id C0
  refine lv_iload hx hb dX5_seek_34 (lv_at hl 4 rfl) ?_
  refine lv_aload_n hx hb dX5_seek_36 rfl (lv_at hl 1 rfl) ?_
  refine zget (v := .int (zI s1 8)) hx hb hown hT hK hP inX9 rfl smX9 1 rfl 8 (by decide) tb_120 rfl dX5_seek_37 ?_
  refine lv_icmp_gt (tgt := 80) hx hb dX5_seek_40 (by decide) (fun hb_1 => ?_) (fun hb_1 => ?_)
  · have hf := zif_t hb_1 hf
    refine lv_aload_n hx hb dX5_seek_80 rfl (lv_at hl 0 rfl) ?_
    refine zget (v := .int (zI s0 6)) hx hb hown hT hK hP inX5 rfl smX5 0 rfl 6 (by decide) tb_345 rfl dX5_seek_81 ?_
    refine lv_if_ne (tgt := 97) hx hb dX5_seek_84 (by decide) (fun hb_2 => ?_) (fun hb_2 => ?_)
    · have hf := zif_f hb_2 hf
      cases hf
      exact zewv hx hb hr hk hK hP hD hS dX5_seek_97
    · have hf := zif_t hb_2 hf
      refine lv_aload_n hx hb dX5_seek_87 rfl (lv_at hl 0 rfl) ?_
      refine lv_iconst (v := 0) hx hb dX5_seek_88 (by decide) ?_
      refine zput (fs' := fs_Parting a0 (upd (zI s0) 7 0) (zL s0)) (ws' := (wd_Parting_seek cy o0 a0 (upd (zI s0) 7 0) (zL s0) o1 a1 (zI s1) (zL s1) (zA s1 2) (zA s1 5) (zA s1 6) (zA s1 14) o2 a2 (zI s2) (zL s2) (zA s2 1) (zA s2 4) (zA s2 5))) hx hb hown hT hK hP hD hS inX5 rfl smX5 tyX5_ok nmX5 0 rfl 7 (by decide) tb_347 rfl rfl rfl (Nat.le_of_ble_eq_true rfl) rfl rfl dX5_seek_89 (fun H locs hP hD hS => ?_)
      refine lv_aload_n hx hb dX5_seek_92 rfl (lv_at hl 0 rfl) ?_
      refine lv_iconst (v := 0) hx hb dX5_seek_93 (by decide) ?_
      refine zput (fs' := fs_Parting a0 (upd (upd (zI s0) 7 0) 8 0) (zL s0)) (ws' := (wd_Parting_seek cy o0 a0 (upd (upd (zI s0) 7 0) 8 0) (zL s0) o1 a1 (zI s1) (zL s1) (zA s1 2) (zA s1 5) (zA s1 6) (zA s1 14) o2 a2 (zI s2) (zL s2) (zA s2 1) (zA s2 4) (zA s2 5))) hx hb hown hT hK hP hD hS inX5 rfl smX5 tyX5_ok nmX5 0 rfl 8 (by decide) tb_349 rfl rfl rfl (Nat.le_of_ble_eq_true rfl) rfl rfl dX5_seek_94 (fun H locs hP hD hS => ?_)
      cases hf
      exact zewv hx hb hr hk hK hP hD hS dX5_seek_97
  · have hf := zif_f hb_1 hf
    refine lv_iload hx hb dX5_seek_43 (lv_at hl 4 rfl) ?_
    refine lv_aload_n hx hb dX5_seek_45 rfl (lv_at hl 1 rfl) ?_
    refine zget (v := .int (zI s1 8)) hx hb hown hT hK hP inX9 rfl smX9 1 rfl 8 (by decide) tb_120 rfl dX5_seek_46 ?_
    refine lv_iconst (v := (-1)) hx hb dX5_seek_49 (by decide) ?_
    refine lv_ixor hx hb dX5_seek_50 ?_
    refine lv_iand hx hb dX5_seek_51 ?_
    refine lv_if_ne (tgt := 74) hx hb dX5_seek_52 (by decide) (fun hb_3 => ?_) (fun hb_3 => ?_)
    · have hf := zif_f hb_3 hf
      exact k_Parting_seek_b74 C0 s0 s1 s2 v3 v4 hk34 hA hP hD hS hf _ (lv_sub hl [0, 1, 2, 3, 4] rfl)
    · have hf := zif_t hb_3 hf
      refine lv_aload_n hx hb dX5_seek_55 rfl (lv_at hl 0 rfl) ?_
      refine lv_iload hx hb dX5_seek_56 (lv_at hl 4 rfl) ?_
      refine lv_aload_n hx hb dX5_seek_58 rfl (lv_at hl 1 rfl) ?_
      refine lv_aload_n hx hb dX5_seek_59 rfl (lv_at hl 2 rfl) ?_
      refine lv_iload_n hx hb dX5_seek_60 rfl (lv_at hl 3 rfl) ?_
      obtain ⟨z4, hc5, hf⟩ := zbd_some hf
      refine zri (zV (As := [.int v4, .ref o1, .ref o2, .int v3]) hx hb hml hown hT hl.1 (c_Parting_isSo o0 a0 s0 o1 a1 s1 o2 a2 s2 v4 v3 hc5) zY_Parting_isSo tb_839 (zpR hK hP [0, 1, 3, 4, 5, 6, 7, 8, 9] rfl 0 5 rfl rfl rfl) rm_ok_Parting_seek_Parting_isSo rfl rfl (Nat.le_of_ble_eq_true rfl) dX5_seek_61 ⟨Nat.zero_le _, Nat.zero_le _⟩) ?_
      refine lv_if_eq (tgt := 74) hx hb dX5_seek_64 (by decide) (fun hb_6 => ?_) (fun hb_6 => ?_)
      · have hf := zif_t hb_6 hf
        exact k_Parting_seek_b74 C0 s0 s1 s2 v3 v4 hk34 hA hP hD hS hf _ (lv_sub hl [0, 1, 2, 3, 4] rfl)
      · have hf := zif_f hb_6 hf
        refine lv_aload_n hx hb dX5_seek_67 rfl (lv_at hl 0 rfl) ?_
        refine lv_iload hx hb dX5_seek_68 (lv_at hl 4 rfl) ?_
        refine lv_aload_n hx hb dX5_seek_70 rfl (lv_at hl 1 rfl) ?_
        obtain ⟨z7, hc8, hf⟩ := zbd_some hf
        refine zwv (wr := [(a1 5, .inl (cy 0, 11, .inl (zA s1 5))), (a1 6, .inl (cy 0, 11, .inl (zA s1 6))), (a1 14, .inl (cy 0, 4, .inl (zA s1 14))), (o2, .inr (0, fs_Bounds a2 (zI s2) (zL s2))), (a2 1, .inl (cy 0, 4, .inl (zA s2 1))), (a2 4, .inl (cy 0, 48, .inl (zA s2 4))), (a2 5, .inl (cy 0, 48, .inl (zA s2 5)))]) (ws' := (wd_Parting_seek cy o0 a0 (zI z7) (zL z7) o1 a1 (zI s1) (zL s1) (zA s1 2) (zA s1 5) (zA s1 6) (zA s1 14) o2 a2 (zI s2) (zL s2) (zA s2 1) (zA s2 4) (zA s2 5))) (zV (As := [.int v4, .ref o1]) hx hb hml hown hT hl.1 (c_Parting_gather o0 a0 s0 o1 a1 s1 v4 hc8) zY_Parting_gather tb_854 (zpRw hK hP hD [0, 1, 2] (by decide) rfl 0 5 rfl rfl rfl rfl) rm_ok_Parting_seek_Parting_gather rfl rfl (Nat.le_of_ble_eq_true rfl) dX5_seek_71 ⟨Nat.zero_le _, Nat.zero_le _⟩) hP hD hS hA [0, 1, 2] [3, 4, 5, 6, 7, 8, 9] [7, 8, 9, 0, 1, 2, 3, 4, 5, 6] rfl rfl (by decide) (by decide) (by decide) rfl rfl (fun H locs hP hD hS => ?_)
        exact k_Parting_seek_b74 C0 z7 s1 s2 v3 v4 hk34 hA hP hD hS hf _ (lv_sub hl [0, 1, 2, 3, 4] rfl)
set_option maxHeartbeats 4000000 in
set_option maxRecDepth 100000 in
theorem k_Parting_seek_h34 {p : Program} {l : Launch} {e : Env} {s : State} {m : MethodId} {args : Array Value} {below : List Frame} {meth : Method} {c : Code} {dC : Nat → ClassId} {dI : Nat → Nat → Nat} {cy : Nat → ClassId} {A : Nat → Prop} {o0 : Nat} {a0 : Nat → Nat} {o1 : Nat} {a1 : Nat → Nat} {o2 : Nat} {a2 : Nat → Nat} {N : Nat} {y : zSt} (C0 : zCx p s m args meth c cX5_seek 5 none RX5 (dC, dI) cy) (s1 : zSt) (s2 : zSt) (v3 : Int32) (hA : ∀ q, s.heap.size ≤ q → A q) : ∀ (n : Nat) (s0 : zSt) (v4 : Int32) {H : Heap} {locs : List Loc} (hP : va_P (dC, dI) vwCl (wd_Parting_seek cy o0 a0 (zI s0) (zL s0) o1 a1 (zI s1) (zL s1) (zA s1 2) (zA s1 5) (zA s1 6) (zA s1 14) o2 a2 (zI s2) (zL s2) (zA s2 1) (zA s2 4) (zA s2 5)) H) (hD : va_D A (wd_Parting_seek cy o0 a0 (zI s0) (zL s0) o1 a1 (zI s1) (zL s1) (zA s1 2) (zA s1 5) (zA s1 6) (zA s1 14) o2 a2 (zI s2) (zL s2) (zA s2 1) (zA s2 4) (zA s2 5))) (hS : va_S A s.heap H locs) (hf : Parting_seek_h34 N s1 s2 v3 n s0 v4 = some y) (ls : Array Slot) (hl : lv_has ls 5 [(0, .ref o0), (1, .ref o1), (2, .ref o2), (3, .int v3), (4, .int v4)]), W p l e rm_Parting_seek s m args below meth c H locs 0 0 (MQ below (zQv (dC, dI) cy (wd_Parting_seek cy o0 a0 (zI y) (zL y) o1 a1 (zI s1) (zL s1) (zA s1 2) (zA s1 5) (zA s1 6) (zA s1 14) o2 a2 (zI s2) (zL s2) (zA s2 1) (zA s2 4) (zA s2 5)) A) args s 0 0 A) (F0 m 34 ls []) := by
  intro n
  induction n with
  | zero => intro s0 v4 H locs hP hD hS hf; cases hf
  | succ n ih =>
    intro s0 v4 H locs hP hD hS hf ls hl
    have hf : Parting_seek_b34 N (Parting_seek_h34 N s1 s2 v3 n) s0 s1 s2 v3 v4 = some y := hf
    exact k_Parting_seek_b34 C0 s0 s1 s2 v3 v4 (fun s0 v4 _ _ hP hD hS hf ls hl => ih s0 v4 hP hD hS hf ls hl) hA hP hD hS hf ls hl
set_option maxHeartbeats 4000000 in
set_option maxRecDepth 100000 in
theorem k_Parting_seek_b0 {p : Program} {l : Launch} {e : Env} {s : State} {m : MethodId} {args : Array Value} {below : List Frame} {meth : Method} {c : Code} {dC : Nat → ClassId} {dI : Nat → Nat → Nat} {cy : Nat → ClassId} {A : Nat → Prop} {o0 : Nat} {a0 : Nat → Nat} {o1 : Nat} {a1 : Nat → Nat} {o2 : Nat} {a2 : Nat → Nat} {N : Nat} {y : zSt} (C0 : zCx p s m args meth c cX5_seek 5 none RX5 (dC, dI) cy) (s0 : zSt) (s1 : zSt) (s2 : zSt) (v3 : Int32) (hA : ∀ q, s.heap.size ≤ q → A q) {H : Heap} {locs : List Loc} (hP : va_P (dC, dI) vwCl (wd_Parting_seek cy o0 a0 (zI s0) (zL s0) o1 a1 (zI s1) (zL s1) (zA s1 2) (zA s1 5) (zA s1 6) (zA s1 14) o2 a2 (zI s2) (zL s2) (zA s2 1) (zA s2 4) (zA s2 5)) H) (hD : va_D A (wd_Parting_seek cy o0 a0 (zI s0) (zL s0) o1 a1 (zI s1) (zL s1) (zA s1 2) (zA s1 5) (zA s1 6) (zA s1 14) o2 a2 (zI s2) (zL s2) (zA s2 1) (zA s2 4) (zA s2 5))) (hS : va_S A s.heap H locs) (hf : Parting_seek_b0 N s0 s1 s2 v3 = some y) (ls : Array Slot) (hl : lv_has ls 5 [(0, .ref o0), (1, .ref o1), (2, .ref o2), (3, .int v3)]) : W p l e rm_Parting_seek s m args below meth c H locs 0 0 (MQ below (zQv (dC, dI) cy (wd_Parting_seek cy o0 a0 (zI y) (zL y) o1 a1 (zI s1) (zL s1) (zA s1 2) (zA s1 5) (zA s1 6) (zA s1 14) o2 a2 (zI s2) (zL s2) (zA s2 1) (zA s2 4) (zA s2 5)) A) args s 0 0 A) (F0 m 0 ls []) := by
  obtain ⟨hx, hb, hr, hml, hown, hT, hk, hK⟩ := id C0
  refine lv_aload_n hx hb dX5_seek_0 rfl (lv_at hl 0 rfl) ?_
  refine lv_iconst (v := 0) hx hb dX5_seek_1 (by decide) ?_
  refine zput (fs' := fs_Parting a0 (upd (zI s0) 6 0) (zL s0)) (ws' := (wd_Parting_seek cy o0 a0 (upd (zI s0) 6 0) (zL s0) o1 a1 (zI s1) (zL s1) (zA s1 2) (zA s1 5) (zA s1 6) (zA s1 14) o2 a2 (zI s2) (zL s2) (zA s2 1) (zA s2 4) (zA s2 5))) hx hb hown hT hK hP hD hS inX5 rfl smX5 tyX5_ok nmX5 0 rfl 6 (by decide) tb_345 rfl rfl rfl (Nat.le_of_ble_eq_true rfl) rfl rfl dX5_seek_2 (fun H locs hP hD hS => ?_)
  refine lv_aload_n hx hb dX5_seek_5 rfl (lv_at hl 0 rfl) ?_
  refine lv_aload_n hx hb dX5_seek_6 rfl (lv_at hl 1 rfl) ?_
  refine zget (v := .int (zI s1 8)) hx hb hown hT hK hP inX9 rfl smX9 1 rfl 8 (by decide) tb_120 rfl dX5_seek_7 ?_
  refine zput (fs' := fs_Parting a0 (upd (upd (zI s0) 6 0) 7 (zI s1 8)) (zL s0)) (ws' := (wd_Parting_seek cy o0 a0 (upd (upd (zI s0) 6 0) 7 (zI s1 8)) (zL s0) o1 a1 (zI s1) (zL s1) (zA s1 2) (zA s1 5) (zA s1 6) (zA s1 14) o2 a2 (zI s2) (zL s2) (zA s2 1) (zA s2 4) (zA s2 5))) hx hb hown hT hK hP hD hS inX5 rfl smX5 tyX5_ok nmX5 0 rfl 7 (by decide) tb_347 rfl rfl rfl (Nat.le_of_ble_eq_true rfl) rfl rfl dX5_seek_10 (fun H locs hP hD hS => ?_)
  refine lv_aload_n hx hb dX5_seek_13 rfl (lv_at hl 0 rfl) ?_
  refine lv_aload_n hx hb dX5_seek_14 rfl (lv_at hl 1 rfl) ?_
  refine zget (v := .int (zI s1 8)) hx hb hown hT hK hP inX9 rfl smX9 1 rfl 8 (by decide) tb_120 rfl dX5_seek_15 ?_
  refine zput (fs' := fs_Parting a0 (upd (upd (upd (zI s0) 6 0) 7 (zI s1 8)) 8 (zI s1 8)) (zL s0)) (ws' := (wd_Parting_seek cy o0 a0 (upd (upd (upd (zI s0) 6 0) 7 (zI s1 8)) 8 (zI s1 8)) (zL s0) o1 a1 (zI s1) (zL s1) (zA s1 2) (zA s1 5) (zA s1 6) (zA s1 14) o2 a2 (zI s2) (zL s2) (zA s2 1) (zA s2 4) (zA s2 5))) hx hb hown hT hK hP hD hS inX5 rfl smX5 tyX5_ok nmX5 0 rfl 8 (by decide) tb_349 rfl rfl rfl (Nat.le_of_ble_eq_true rfl) rfl rfl dX5_seek_18 (fun H locs hP hD hS => ?_)
  refine lv_aload_n hx hb dX5_seek_21 rfl (lv_at hl 0 rfl) ?_
  refine lv_iconst (v := (-1)) hx hb dX5_seek_22 (by decide) ?_
  refine zput (fs' := fs_Parting a0 (upd (upd (upd (upd (zI s0) 6 0) 7 (zI s1 8)) 8 (zI s1 8)) 9 (-1)) (zL s0)) (ws' := (wd_Parting_seek cy o0 a0 (upd (upd (upd (upd (zI s0) 6 0) 7 (zI s1 8)) 8 (zI s1 8)) 9 (-1)) (zL s0) o1 a1 (zI s1) (zL s1) (zA s1 2) (zA s1 5) (zA s1 6) (zA s1 14) o2 a2 (zI s2) (zL s2) (zA s2 1) (zA s2 4) (zA s2 5))) hx hb hown hT hK hP hD hS inX5 rfl smX5 tyX5_ok nmX5 0 rfl 9 (by decide) tb_351 rfl rfl rfl (Nat.le_of_ble_eq_true rfl) rfl rfl dX5_seek_23 (fun H locs hP hD hS => ?_)
  refine lv_aload_n hx hb dX5_seek_26 rfl (lv_at hl 0 rfl) ?_
  refine lv_iconst (v := (-1)) hx hb dX5_seek_27 (by decide) ?_
  refine zput (fs' := fs_Parting a0 (upd (upd (upd (upd (upd (zI s0) 6 0) 7 (zI s1 8)) 8 (zI s1 8)) 9 (-1)) 10 (-1)) (zL s0)) (ws' := (wd_Parting_seek cy o0 a0 (upd (upd (upd (upd (upd (zI s0) 6 0) 7 (zI s1 8)) 8 (zI s1 8)) 9 (-1)) 10 (-1)) (zL s0) o1 a1 (zI s1) (zL s1) (zA s1 2) (zA s1 5) (zA s1 6) (zA s1 14) o2 a2 (zI s2) (zL s2) (zA s2 1) (zA s2 4) (zA s2 5))) hx hb hown hT hK hP hD hS inX5 rfl smX5 tyX5_ok nmX5 0 rfl 10 (by decide) tb_353 rfl rfl rfl (Nat.le_of_ble_eq_true rfl) rfl rfl dX5_seek_28 (fun H locs hP hD hS => ?_)
  refine lv_iconst (v := 0) hx hb dX5_seek_31 (by decide) ?_
  refine lv_istore (lv' := [(4, .int 0), (0, .ref o0), (1, .ref o1), (2, .ref o2), (3, .int v3)]) hx hb dX5_seek_32 hl (by decide) rfl (fun ls hl => ?_)
  exact k_Parting_seek_h34 C0 s1 s2 v3  hA N (zpI (zpI (zpI (zpI (zpI s0 6 0) 7 (zI s1 8)) 8 (zI s1 8)) 9 (-1)) 10 (-1)) 0 hP hD hS hf _ (lv_sub hl [1, 2, 3, 4, 0] rfl)
set_option maxHeartbeats 4000000 in
set_option maxRecDepth 100000 in
theorem c_Parting_seek {l : Launch} {dC : Nat → ClassId} {dI : Nat → Nat → Nat} {cy : Nat → ClassId} {sz : Nat} {N : Nat} (o0 : Nat) (a0 : Nat → Nat) (s0 : zSt) (o1 : Nat) (a1 : Nat → Nat) (s1 : zSt) (o2 : Nat) (a2 : Nat → Nat) (s2 : zSt) (v3 : Int32) {y : zSt} (hf : Parting_seek N s0 s1 s2 v3 = some y) : Met l yX5_seek (.code yX5_seek cX5_seek 5 none :: zt) rm_Parting_seek (va_Pc [.ref o0, .ref o1, .ref o2, .int v3] (zPre (dC, dI) cy (wd_Parting_seek cy o0 a0 (zI s0) (zL s0) o1 a1 (zI s1) (zL s1) (zA s1 2) (zA s1 5) (zA s1 6) (zA s1 14) o2 a2 (zI s2) (zL s2) (zA s2 1) (zA s2 4) (zA s2 5)) sz)) (zQv (dC, dI) cy (wd_Parting_seek cy o0 a0 (zI y) (zL y) o1 a1 (zI s1) (zL s1) (zA s1 2) (zA s1 5) (zA s1 6) (zA s1 14) o2 a2 (zI s2) (zL s2) (zA s2 1) (zA s2 4) (zA s2 5)) (va_A (wd_Parting_seek cy o0 a0 (zI s0) (zL s0) o1 a1 (zI s1) (zL s1) (zA s1 2) (zA s1 5) (zA s1 6) (zA s1 14) o2 a2 (zI s2) (zL s2) (zA s2 1) (zA s2 4) (zA s2 5)) sz)) 0 0 (va_A (wd_Parting_seek cy o0 a0 (zI s0) (zL s0) o1 a1 (zI s1) (zL s1) (zA s1 2) (zA s1 5) (zA s1 6) (zA s1 14) o2 a2 (zI s2) (zL s2) (zA s2 1) (zA s2 4) (zA s2 5)) sz) :=
  zentW (Qw := fun A => (zQv (dC, dI) cy (wd_Parting_seek cy o0 a0 (zI y) (zL y) o1 a1 (zI s1) (zL s1) (zA s1 2) (zA s1 5) (zA s1 6) (zA s1 14) o2 a2 (zI s2) (zL s2) (zA s2 1) (zA s2 4) (zA s2 5)) A)) (by decide +kernel) (Nat.le_of_ble_eq_true rfl) (fun p e s m below meth c A C0 hA hP hD hS ls hl => k_Parting_seek_b0 C0 s0 s1 s2 v3 hA hP hD hS hf ls hl)
def wd_Reader_skipBlanks (cy : Nat → ClassId) (o0 : Nat) (a0 : Nat → Nat) (g0 : Nat → Int32) (h0 : Nat → Int64) (f1 : Nat → Int32) : va_W := [(o0, .inr (6, fs_Reader a0 g0 h0)), ((a0 4), .inl (cy 2, 1500, .inl f1))]
def rm_Reader_skipBlanks : Room := { frames := 1, cells := 0, slots := 0, locals := 40 }
set_option maxHeartbeats 4000000 in
set_option maxRecDepth 100000 in
theorem k_Reader_skipBlanks_b39 {p : Program} {l : Launch} {e : Env} {s : State} {m : MethodId} {args : Array Value} {below : List Frame} {meth : Method} {c : Code} {dC : Nat → ClassId} {dI : Nat → Nat → Nat} {cy : Nat → ClassId} {A : Nat → Prop} {o0 : Nat} {a0 : Nat → Nat} {N : Nat} {kh0 : zSt → Option (zSt)} {y : zSt} (C0 : zCx p s m args meth c cX6_skipBlanks 1 none RX6 (dC, dI) cy) (s0 : zSt) (f1 : Nat → Int32) (hk0 : ∀ (s0 : zSt) {H : Heap} {locs : List Loc} (_ : va_P (dC, dI) vwCl (wd_Reader_skipBlanks cy o0 a0 (zI s0) (zL s0) f1) H) (_ : va_D A (wd_Reader_skipBlanks cy o0 a0 (zI s0) (zL s0) f1)) (_ : va_S A s.heap H locs) (_ : kh0 s0 = some y) (ls : Array Slot) (_ : lv_has ls 1 [(0, .ref o0)]), W p l e rm_Reader_skipBlanks s m args below meth c H locs 0 0 (MQ below (zQv (dC, dI) cy (wd_Reader_skipBlanks cy o0 a0 (zI y) (zL y) f1) A) args s 0 0 A) (F0 m 0 ls [])) (hA : ∀ q, s.heap.size ≤ q → A q) {H : Heap} {locs : List Loc} (hP : va_P (dC, dI) vwCl (wd_Reader_skipBlanks cy o0 a0 (zI s0) (zL s0) f1) H) (hD : va_D A (wd_Reader_skipBlanks cy o0 a0 (zI s0) (zL s0) f1)) (hS : va_S A s.heap H locs) (hf : Reader_skipBlanks_b39 N kh0 s0 f1 = some y) (ls : Array Slot) (hl : lv_has ls 1 [(0, .ref o0)]) : W p l e rm_Reader_skipBlanks s m args below meth c H locs 0 0 (MQ below (zQv (dC, dI) cy (wd_Reader_skipBlanks cy o0 a0 (zI y) (zL y) f1) A) args s 0 0 A) (F0 m 39 ls []) := by
  obtain ⟨hx, hb, hr, hml, hown, hT, hk, hK⟩ := id C0
  refine lv_aload_n hx hb dX6_skipBlanks_39 rfl (lv_at hl 0 rfl) ?_
  refine lv_dup hx hb dX6_skipBlanks_40 rfl ?_
  refine zget (v := .int (zI s0 6)) hx hb hown hT hK hP inX6 rfl smX6 0 rfl 6 (by decide) tb_47 rfl dX6_skipBlanks_41 ?_
  refine lv_iconst (v := 1) hx hb dX6_skipBlanks_44 (by decide) ?_
  refine lv_iadd hx hb dX6_skipBlanks_45 ?_
  refine zput (fs' := fs_Reader a0 (upd (zI s0) 6 ((zI s0 6) + 1)) (zL s0)) (ws' := (wd_Reader_skipBlanks cy o0 a0 (upd (zI s0) 6 ((zI s0 6) + 1)) (zL s0) f1)) hx hb hown hT hK hP hD hS inX6 rfl smX6 tyX6_ok nmX6 0 rfl 6 (by decide) tb_47 rfl rfl rfl (Nat.le_of_ble_eq_true rfl) rfl rfl dX6_skipBlanks_46 (fun H locs hP hD hS => ?_)
  refine lv_goto (tgt := 0) hx hb dX6_skipBlanks_49 (by decide) ?_
  exact hk0 (zpI s0 6 ((zI s0 6) + 1)) hP hD hS hf _ (lv_sub hl [0] rfl)
set_option maxHeartbeats 4000000 in
set_option maxRecDepth 100000 in
theorem k_Reader_skipBlanks_b0 {p : Program} {l : Launch} {e : Env} {s : State} {m : MethodId} {args : Array Value} {below : List Frame} {meth : Method} {c : Code} {dC : Nat → ClassId} {dI : Nat → Nat → Nat} {cy : Nat → ClassId} {A : Nat → Prop} {o0 : Nat} {a0 : Nat → Nat} {N : Nat} {kh0 : zSt → Option (zSt)} {y : zSt} (C0 : zCx p s m args meth c cX6_skipBlanks 1 none RX6 (dC, dI) cy) (s0 : zSt) (f1 : Nat → Int32) (hk0 : ∀ (s0 : zSt) {H : Heap} {locs : List Loc} (_ : va_P (dC, dI) vwCl (wd_Reader_skipBlanks cy o0 a0 (zI s0) (zL s0) f1) H) (_ : va_D A (wd_Reader_skipBlanks cy o0 a0 (zI s0) (zL s0) f1)) (_ : va_S A s.heap H locs) (_ : kh0 s0 = some y) (ls : Array Slot) (_ : lv_has ls 1 [(0, .ref o0)]), W p l e rm_Reader_skipBlanks s m args below meth c H locs 0 0 (MQ below (zQv (dC, dI) cy (wd_Reader_skipBlanks cy o0 a0 (zI y) (zL y) f1) A) args s 0 0 A) (F0 m 0 ls [])) (hA : ∀ q, s.heap.size ≤ q → A q) {H : Heap} {locs : List Loc} (hP : va_P (dC, dI) vwCl (wd_Reader_skipBlanks cy o0 a0 (zI s0) (zL s0) f1) H) (hD : va_D A (wd_Reader_skipBlanks cy o0 a0 (zI s0) (zL s0) f1)) (hS : va_S A s.heap H locs) (hf : Reader_skipBlanks_b0 N kh0 s0 f1 = some y) (ls : Array Slot) (hl : lv_has ls 1 [(0, .ref o0)]) : W p l e rm_Reader_skipBlanks s m args below meth c H locs 0 0 (MQ below (zQv (dC, dI) cy (wd_Reader_skipBlanks cy o0 a0 (zI y) (zL y) f1) A) args s 0 0 A) (F0 m 0 ls []) := by
  obtain ⟨hx, hb, hr, hml, hown, hT, hk, hK⟩ := id C0
  refine lv_aload_n hx hb dX6_skipBlanks_0 rfl (lv_at hl 0 rfl) ?_
  refine zget (v := .int (zI s0 6)) hx hb hown hT hK hP inX6 rfl smX6 0 rfl 6 (by decide) tb_47 rfl dX6_skipBlanks_1 ?_
  refine lv_aload_n hx hb dX6_skipBlanks_4 rfl (lv_at hl 0 rfl) ?_
  refine zget (v := .int (zI s0 5)) hx hb hown hT hK hP inX6 rfl smX6 0 rfl 5 (by decide) tb_46 rfl dX6_skipBlanks_5 ?_
  refine lv_icmp_ge (tgt := 52) hx hb dX6_skipBlanks_8 (by decide) (fun hb_1 => ?_) (fun hb_1 => ?_)
  · have hf := zif_t hb_1 hf
    cases hf
    exact zewv hx hb hr hk hK hP hD hS dX6_skipBlanks_52
  · have hf := zif_f hb_1 hf
    refine lv_aload_n hx hb dX6_skipBlanks_11 rfl (lv_at hl 0 rfl) ?_
    refine zget (v := .ref (a0 4)) hx hb hown hT hK hP inX6 rfl smX6 0 rfl 4 (by decide) tb_45 rfl dX6_skipBlanks_12 ?_
    refine lv_aload_n hx hb dX6_skipBlanks_15 rfl (lv_at hl 0 rfl) ?_
    refine zget (v := .int (zI s0 6)) hx hb hown hT hK hP inX6 rfl smX6 0 rfl 6 (by decide) tb_47 rfl dX6_skipBlanks_16 ?_
    obtain ⟨hi2, hf⟩ := zck_some hf
    refine va_bald hx hb hK.1 hP 1 2 rfl rfl hi2 dX6_skipBlanks_19 ?_
    refine lv_bipush (v := 32) hx hb dX6_skipBlanks_20 (by decide) ?_
    refine lv_icmp_eq (tgt := 39) hx hb dX6_skipBlanks_22 (by decide) (fun hb_3 => ?_) (fun hb_3 => ?_)
    · have hf := zif_t hb_3 hf
      exact k_Reader_skipBlanks_b39 C0 s0 f1 hk0 hA hP hD hS hf _ (lv_sub hl [0] rfl)
    · have hf := zif_f hb_3 hf
      refine lv_aload_n hx hb dX6_skipBlanks_25 rfl (lv_at hl 0 rfl) ?_
      refine zget (v := .ref (a0 4)) hx hb hown hT hK hP inX6 rfl smX6 0 rfl 4 (by decide) tb_45 rfl dX6_skipBlanks_26 ?_
      refine lv_aload_n hx hb dX6_skipBlanks_29 rfl (lv_at hl 0 rfl) ?_
      refine zget (v := .int (zI s0 6)) hx hb hown hT hK hP inX6 rfl smX6 0 rfl 6 (by decide) tb_47 rfl dX6_skipBlanks_30 ?_
      obtain ⟨hi4, hf⟩ := zck_some hf
      refine va_bald hx hb hK.1 hP 1 2 rfl rfl hi4 dX6_skipBlanks_33 ?_
      refine lv_bipush (v := 10) hx hb dX6_skipBlanks_34 (by decide) ?_
      refine lv_icmp_ne (tgt := 52) hx hb dX6_skipBlanks_36 (by decide) (fun hb_5 => ?_) (fun hb_5 => ?_)
      · have hf := zif_f hb_5 hf
        cases hf
        exact zewv hx hb hr hk hK hP hD hS dX6_skipBlanks_52
      · have hf := zif_t hb_5 hf
        exact k_Reader_skipBlanks_b39 C0 s0 f1 hk0 hA hP hD hS hf _ (lv_sub hl [0] rfl)
set_option maxHeartbeats 4000000 in
set_option maxRecDepth 100000 in
theorem k_Reader_skipBlanks_h0 {p : Program} {l : Launch} {e : Env} {s : State} {m : MethodId} {args : Array Value} {below : List Frame} {meth : Method} {c : Code} {dC : Nat → ClassId} {dI : Nat → Nat → Nat} {cy : Nat → ClassId} {A : Nat → Prop} {o0 : Nat} {a0 : Nat → Nat} {N : Nat} {y : zSt} (C0 : zCx p s m args meth c cX6_skipBlanks 1 none RX6 (dC, dI) cy) (f1 : (Nat → Int32)) (hA : ∀ q, s.heap.size ≤ q → A q) : ∀ (n : Nat) (s0 : zSt) {H : Heap} {locs : List Loc} (hP : va_P (dC, dI) vwCl (wd_Reader_skipBlanks cy o0 a0 (zI s0) (zL s0) f1) H) (hD : va_D A (wd_Reader_skipBlanks cy o0 a0 (zI s0) (zL s0) f1)) (hS : va_S A s.heap H locs) (hf : Reader_skipBlanks_h0 N f1 n s0 = some y) (ls : Array Slot) (hl : lv_has ls 1 [(0, .ref o0)]), W p l e rm_Reader_skipBlanks s m args below meth c H locs 0 0 (MQ below (zQv (dC, dI) cy (wd_Reader_skipBlanks cy o0 a0 (zI y) (zL y) f1) A) args s 0 0 A) (F0 m 0 ls []) := by
  intro n
  induction n with
  | zero => intro s0 H locs hP hD hS hf; cases hf
  | succ n ih =>
    intro s0 H locs hP hD hS hf ls hl
    have hf : Reader_skipBlanks_b0 N (Reader_skipBlanks_h0 N f1 n) s0 f1 = some y := hf
    exact k_Reader_skipBlanks_b0 C0 s0 f1 (fun s0 _ _ hP hD hS hf ls hl => ih s0 hP hD hS hf ls hl) hA hP hD hS hf ls hl
set_option maxHeartbeats 4000000 in
set_option maxRecDepth 100000 in
theorem c_Reader_skipBlanks {l : Launch} {dC : Nat → ClassId} {dI : Nat → Nat → Nat} {cy : Nat → ClassId} {sz : Nat} {N : Nat} (o0 : Nat) (a0 : Nat → Nat) (s0 : zSt) (f1 : Nat → Int32) {y : zSt} (hf : Reader_skipBlanks N s0 f1 = some y) : Met l yX6_skipBlanks (.code yX6_skipBlanks cX6_skipBlanks 1 none :: zt) rm_Reader_skipBlanks (va_Pc [.ref o0] (zPre (dC, dI) cy (wd_Reader_skipBlanks cy o0 a0 (zI s0) (zL s0) f1) sz)) (zQv (dC, dI) cy (wd_Reader_skipBlanks cy o0 a0 (zI y) (zL y) f1) (va_A (wd_Reader_skipBlanks cy o0 a0 (zI s0) (zL s0) f1) sz)) 0 0 (va_A (wd_Reader_skipBlanks cy o0 a0 (zI s0) (zL s0) f1) sz) :=
  zentW (Qw := fun A => (zQv (dC, dI) cy (wd_Reader_skipBlanks cy o0 a0 (zI y) (zL y) f1) A)) (by decide +kernel) (Nat.le_of_ble_eq_true rfl) (fun p e s m below meth c A C0 hA hP hD hS ls hl => k_Reader_skipBlanks_h0 C0 f1 hA N s0 hP hD hS hf ls hl)
def wd_Reader_isLetter (cy : Nat → ClassId) : va_W := []
def rm_Reader_isLetter : Room := { frames := 2, cells := 0, slots := 0, locals := 62 }
theorem rm_ok_Reader_isLetter_CH_within : rm_CH_within.cells = 0 ∧ rm_CH_within.slots = 0 ∧ rm_CH_within.frames + 1 ≤ rm_Reader_isLetter.frames ∧ 8 + (3 + 11) + rm_CH_within.locals ≤ rm_Reader_isLetter.locals := by decide
set_option maxHeartbeats 4000000 in
set_option maxRecDepth 100000 in
theorem k_Reader_isLetter_b0 {p : Program} {l : Launch} {e : Env} {s : State} {m : MethodId} {args : Array Value} {below : List Frame} {meth : Method} {c : Code} {dC : Nat → ClassId} {dI : Nat → Nat → Nat} {cy : Nat → ClassId} {N : Nat} {y : Int32} (C0 : zCx p s m args meth c cX6_isLetter 1 (some .boolean) RX6 (dC, dI) cy) (v0 : Int32) (hP : va_P (dC, dI) vwCl (wd_Reader_isLetter cy) s.heap) (hf : Reader_isLetter_b0 N v0 = some y) (ls : Array Slot) (hl : lv_has ls 1 [(0, .int v0)]) : W p l e rm_Reader_isLetter s m args below meth c s.heap [] 0 0 (MQ below (zSi y) args s 0 0 (fun _ => False)) (F0 m 0 ls []) := by
  obtain ⟨hx, hb, hr, hml, hown, hT, hk, hK⟩ := id C0
  refine lv_iload_n hx hb dX6_isLetter_0 rfl (lv_at hl 0 rfl) ?_
  refine lv_bipush (v := 97) hx hb dX6_isLetter_1 (by decide) ?_
  refine lv_bipush (v := 122) hx hb dX6_isLetter_3 (by decide) ?_
  obtain ⟨z1, hc2, hf⟩ := zbd_some hf
  refine zri (zSN (As := [.int v0, .int 97, .int 122]) hx hb hml hown hT hl.1 (c_CH_within v0 97 122 hc2) zY_CH_within hK nl_10 (zpS hK hP [] rfl) rm_ok_Reader_isLetter_CH_within rfl rfl (Nat.le_of_ble_eq_true rfl) dX6_isLetter_5 ⟨Nat.zero_le _, Nat.zero_le _⟩) ?_
  obtain ⟨hq3, hf⟩ := zcb_some hf
  cases hf
  exact zerz hx hb hr hk hq3 dX6_isLetter_8
set_option maxHeartbeats 4000000 in
set_option maxRecDepth 100000 in
theorem c_Reader_isLetter {l : Launch} {dC : Nat → ClassId} {dI : Nat → Nat → Nat} {cy : Nat → ClassId} {N : Nat} (v0 : Int32) {y : Int32} (hf : Reader_isLetter N v0 = some y) : Met l yX6_isLetter (.code yX6_isLetter cX6_isLetter 1 (some .boolean) :: zt) rm_Reader_isLetter (va_Pc [.int v0] (zRd (dC, dI) cy (wd_Reader_isLetter cy))) (zSi y) 0 0 (fun _ => False) :=
  zentR (by decide +kernel) (Nat.le_of_ble_eq_true rfl) (fun p e s m below meth c C0 hP ls hl => k_Reader_isLetter_b0 C0 v0 hP hf ls hl)
