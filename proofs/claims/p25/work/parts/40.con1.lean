def wd_Reader_readWord (cy : Nat → ClassId) (o0 : Nat) (a0 : Nat → Nat) (g0 : Nat → Int32) (h0 : Nat → Int64) (x0_3 : Nat → Int64) (f1 : Nat → Int32) : va_W := [(o0, .inr (6, fs_Reader a0 g0 h0)), (a0 3, .inl (cy 1, 205, .inr (.inl x0_3))), ((a0 4), .inl (cy 2, 1500, .inl f1))]
def rm_Reader_readWord : Room := { frames := 3, cells := 0, slots := 0, locals := 82 }
theorem rm_ok_Reader_readWord_Reader_isLetter : rm_Reader_isLetter.cells = 0 ∧ rm_Reader_isLetter.slots = 0 ∧ rm_Reader_isLetter.frames + 1 ≤ rm_Reader_readWord.frames ∧ 8 + (1 + 11) + rm_Reader_isLetter.locals ≤ rm_Reader_readWord.locals := by decide
set_option maxHeartbeats 4000000 in
set_option maxRecDepth 100000 in
theorem k_Reader_readWord_b62 {p : Program} {l : Launch} {e : Env} {s : State} {m : MethodId} {args : Array Value} {below : List Frame} {meth : Method} {c : Code} {dC : Nat → ClassId} {dI : Nat → Nat → Nat} {cy : Nat → ClassId} {A : Nat → Prop} {o0 : Nat} {a0 : Nat → Nat} {N : Nat} {y : Int32 × zSt} (C0 : zCx p s m args meth c cX6_readWord 4 (some .int) RX6 (dC, dI) cy) (s0 : zSt) (f1 : Nat → Int32) (v1 : Int32) (v2 : Int64) (hA : ∀ q, s.heap.size ≤ q → A q) {H : Heap} {locs : List Loc} (hP : va_P (dC, dI) vwCl (wd_Reader_readWord cy o0 a0 (zI s0) (zL s0) (zB s0 3) f1) H) (hD : va_D A (wd_Reader_readWord cy o0 a0 (zI s0) (zL s0) (zB s0 3) f1)) (hS : va_S A s.heap H locs) (hf : Reader_readWord_b62 N s0 f1 v1 v2 = some y) (ls : Array Slot) (hl : lv_has ls 4 [(0, .ref o0), (1, .int v1), (2, .long v2)]) : W p l e rm_Reader_readWord s m args below meth c H locs 0 0 (MQ below (zQi y.1 (dC, dI) cy (wd_Reader_readWord cy o0 a0 (zI y.2) (zL y.2) (zB y.2 3) f1) A) args s 0 0 A) (F0 m 62 ls []) := by
  obtain ⟨hx, hb, hr, hml, hown, hT, hk, hK⟩ := id C0
  refine lv_aload_n hx hb dX6_readWord_62 rfl (lv_at hl 0 rfl) ?_
  refine zget (v := .ref (a0 3)) hx hb hown hT hK hP inX6 rfl smX6 0 rfl 3 (by decide) tb_43 rfl dX6_readWord_63 ?_
  refine lv_aload_n hx hb dX6_readWord_66 rfl (lv_at hl 0 rfl) ?_
  refine zget (v := .int (zI s0 0)) hx hb hown hT hK hP inX6 rfl smX6 0 rfl 0 (by decide) tb_37 rfl dX6_readWord_67 ?_
  refine lv_lload_n hx hb dX6_readWord_70 rfl (lv_at hl 2 rfl) ?_
  obtain ⟨hi1, hf⟩ := zck_some hf
  refine zlst (ws' := (wd_Reader_readWord cy o0 a0 (zI s0) (zL s0) (vp_updL (zB s0 3) (Int32.toNatClampNeg (zI s0 0)) v2) f1)) hx hb hK hP hD hS 1 1 rfl rfl hi1 rfl dX6_readWord_71 (fun H locs hP hD hS => ?_)
  refine lv_aload_n hx hb dX6_readWord_72 rfl (lv_at hl 0 rfl) ?_
  refine zget (v := .int (zI s0 6)) hx hb hown hT hK hP inX6 rfl smX6 0 rfl 6 (by decide) tb_47 rfl dX6_readWord_73 ?_
  refine lv_iload_n hx hb dX6_readWord_76 rfl (lv_at hl 1 rfl) ?_
  refine lv_isub hx hb dX6_readWord_77 ?_
  refine lv_bipush (v := 8) hx hb dX6_readWord_78 (by decide) ?_
  refine lv_icmp_gt (tgt := 87) hx hb dX6_readWord_80 (by decide) (fun hb_2 => ?_) (fun hb_2 => ?_)
  · have hf := zif_t hb_2 hf
    refine lv_iconst (v := 1) hx hb dX6_readWord_87 (by decide) ?_
    cases hf
    exact zewi hx hb hr hk hK hP hD hS dX6_readWord_88
  · have hf := zif_f hb_2 hf
    refine lv_iconst (v := 2) hx hb dX6_readWord_83 (by decide) ?_
    refine lv_goto (tgt := 88) hx hb dX6_readWord_84 (by decide) ?_
    cases hf
    exact zewi hx hb hr hk hK hP hD hS dX6_readWord_88
set_option maxHeartbeats 4000000 in
set_option maxRecDepth 100000 in
theorem k_Reader_readWord_b7 {p : Program} {l : Launch} {e : Env} {s : State} {m : MethodId} {args : Array Value} {below : List Frame} {meth : Method} {c : Code} {dC : Nat → ClassId} {dI : Nat → Nat → Nat} {cy : Nat → ClassId} {A : Nat → Prop} {o0 : Nat} {a0 : Nat → Nat} {N : Nat} {kh7 : zSt → Int64 → Option (Int32 × zSt)} {y : Int32 × zSt} (C0 : zCx p s m args meth c cX6_readWord 4 (some .int) RX6 (dC, dI) cy) (s0 : zSt) (f1 : Nat → Int32) (v1 : Int32) (v2 : Int64) (hk7 : ∀ (s0 : zSt) (v2 : Int64) {H : Heap} {locs : List Loc} (_ : va_P (dC, dI) vwCl (wd_Reader_readWord cy o0 a0 (zI s0) (zL s0) (zB s0 3) f1) H) (_ : va_D A (wd_Reader_readWord cy o0 a0 (zI s0) (zL s0) (zB s0 3) f1)) (_ : va_S A s.heap H locs) (_ : kh7 s0 v2 = some y) (ls : Array Slot) (_ : lv_has ls 4 [(0, .ref o0), (1, .int v1), (2, .long v2)]), W p l e rm_Reader_readWord s m args below meth c H locs 0 0 (MQ below (zQi y.1 (dC, dI) cy (wd_Reader_readWord cy o0 a0 (zI y.2) (zL y.2) (zB y.2 3) f1) A) args s 0 0 A) (F0 m 7 ls [])) (hA : ∀ q, s.heap.size ≤ q → A q) {H : Heap} {locs : List Loc} (hP : va_P (dC, dI) vwCl (wd_Reader_readWord cy o0 a0 (zI s0) (zL s0) (zB s0 3) f1) H) (hD : va_D A (wd_Reader_readWord cy o0 a0 (zI s0) (zL s0) (zB s0 3) f1)) (hS : va_S A s.heap H locs) (hf : Reader_readWord_b7 N kh7 s0 f1 v1 v2 = some y) (ls : Array Slot) (hl : lv_has ls 4 [(0, .ref o0), (1, .int v1), (2, .long v2)]) : W p l e rm_Reader_readWord s m args below meth c H locs 0 0 (MQ below (zQi y.1 (dC, dI) cy (wd_Reader_readWord cy o0 a0 (zI y.2) (zL y.2) (zB y.2 3) f1) A) args s 0 0 A) (F0 m 7 ls []) := by
  obtain ⟨hx, hb, hr, hml, hown, hT, hk, hK⟩ := id C0
  refine lv_aload_n hx hb dX6_readWord_7 rfl (lv_at hl 0 rfl) ?_
  refine zget (v := .int (zI s0 6)) hx hb hown hT hK hP inX6 rfl smX6 0 rfl 6 (by decide) tb_47 rfl dX6_readWord_8 ?_
  refine lv_aload_n hx hb dX6_readWord_11 rfl (lv_at hl 0 rfl) ?_
  refine zget (v := .int (zI s0 5)) hx hb hown hT hK hP inX6 rfl smX6 0 rfl 5 (by decide) tb_46 rfl dX6_readWord_12 ?_
  refine lv_icmp_ge (tgt := 62) hx hb dX6_readWord_15 (by decide) (fun hb_1 => ?_) (fun hb_1 => ?_)
  · have hf := zif_t hb_1 hf
    exact k_Reader_readWord_b62 C0 s0 f1 v1 v2  hA hP hD hS hf _ (lv_sub hl [0, 1, 2] rfl)
  · have hf := zif_f hb_1 hf
    refine lv_aload_n hx hb dX6_readWord_18 rfl (lv_at hl 0 rfl) ?_
    refine zget (v := .ref (a0 4)) hx hb hown hT hK hP inX6 rfl smX6 0 rfl 4 (by decide) tb_45 rfl dX6_readWord_19 ?_
    refine lv_aload_n hx hb dX6_readWord_22 rfl (lv_at hl 0 rfl) ?_
    refine zget (v := .int (zI s0 6)) hx hb hown hT hK hP inX6 rfl smX6 0 rfl 6 (by decide) tb_47 rfl dX6_readWord_23 ?_
    obtain ⟨hi2, hf⟩ := zck_some hf
    refine va_bald hx hb hK.1 hP 2 2 rfl rfl hi2 dX6_readWord_26 ?_
    obtain ⟨z3, hc4, hf⟩ := zbd_some hf
    refine zri (zS (As := [.int (f1 (Int32.toNatClampNeg (zI s0 6)))]) hx hb hml hown hT hl.1 (c_Reader_isLetter (f1 (Int32.toNatClampNeg (zI s0 6))) hc4) zY_Reader_isLetter tb_525 (zpS hK hP [] rfl) rm_ok_Reader_readWord_Reader_isLetter rfl rfl (Nat.le_of_ble_eq_true rfl) dX6_readWord_27 ⟨Nat.zero_le _, Nat.zero_le _⟩) ?_
    refine lv_if_eq (tgt := 62) hx hb dX6_readWord_30 (by decide) (fun hb_5 => ?_) (fun hb_5 => ?_)
    · have hf := zif_t hb_5 hf
      exact k_Reader_readWord_b62 C0 s0 f1 v1 v2  hA hP hD hS hf _ (lv_sub hl [0, 1, 2] rfl)
    · have hf := zif_f hb_5 hf
      refine lv_lload_n hx hb dX6_readWord_33 rfl (lv_at hl 2 rfl) ?_
      refine lv_bipush (v := 8) hx hb dX6_readWord_34 (by decide) ?_
      refine lv_lshl (v := v2 <<< (Int32.toInt64 8 &&& 63)) hx hb dX6_readWord_36 rfl ?_
      refine lv_aload_n hx hb dX6_readWord_37 rfl (lv_at hl 0 rfl) ?_
      refine zget (v := .ref (a0 4)) hx hb hown hT hK hP inX6 rfl smX6 0 rfl 4 (by decide) tb_45 rfl dX6_readWord_38 ?_
      refine lv_aload_n hx hb dX6_readWord_41 rfl (lv_at hl 0 rfl) ?_
      refine zget (v := .int (zI s0 6)) hx hb hown hT hK hP inX6 rfl smX6 0 rfl 6 (by decide) tb_47 rfl dX6_readWord_42 ?_
      obtain ⟨hi6, hf⟩ := zck_some hf
      refine va_bald hx hb hK.1 hP 2 2 rfl rfl hi6 dX6_readWord_45 ?_
      refine lv_i2l (v := Int32.toInt64 (f1 (Int32.toNatClampNeg (zI s0 6)))) hx hb dX6_readWord_46 rfl ?_
      refine lv_lor hx hb dX6_readWord_47 ?_
      refine lv_lstore_n (lv' := [(2, .long ((v2 <<< (Int32.toInt64 8 &&& 63)) ||| (Int32.toInt64 (f1 (Int32.toNatClampNeg (zI s0 6)))))), (0, .ref o0), (1, .int v1)]) hx hb dX6_readWord_48 rfl hl (by decide) rfl (fun ls hl => ?_)
      refine lv_aload_n hx hb dX6_readWord_49 rfl (lv_at hl 1 rfl) ?_
      refine lv_dup hx hb dX6_readWord_50 rfl ?_
      refine zget (v := .int (zI s0 6)) hx hb hown hT hK hP inX6 rfl smX6 0 rfl 6 (by decide) tb_47 rfl dX6_readWord_51 ?_
      refine lv_iconst (v := 1) hx hb dX6_readWord_54 (by decide) ?_
      refine lv_iadd hx hb dX6_readWord_55 ?_
      refine zput (fs' := fs_Reader a0 (upd (zI s0) 6 ((zI s0 6) + 1)) (zL s0)) (ws' := (wd_Reader_readWord cy o0 a0 (upd (zI s0) 6 ((zI s0 6) + 1)) (zL s0) (zB s0 3) f1)) hx hb hown hT hK hP hD hS inX6 rfl smX6 tyX6_ok nmX6 0 rfl 6 (by decide) tb_47 rfl rfl rfl (Nat.le_of_ble_eq_true rfl) rfl rfl dX6_readWord_56 (fun H locs hP hD hS => ?_)
      refine lv_goto (tgt := 7) hx hb dX6_readWord_59 (by decide) ?_
      exact hk7 (zpI s0 6 ((zI s0 6) + 1)) ((v2 <<< (Int32.toInt64 8 &&& 63)) ||| (Int32.toInt64 (f1 (Int32.toNatClampNeg (zI s0 6))))) hP hD hS hf _ (lv_sub hl [1, 2, 0] rfl)
set_option maxHeartbeats 4000000 in
set_option maxRecDepth 100000 in
theorem k_Reader_readWord_h7 {p : Program} {l : Launch} {e : Env} {s : State} {m : MethodId} {args : Array Value} {below : List Frame} {meth : Method} {c : Code} {dC : Nat → ClassId} {dI : Nat → Nat → Nat} {cy : Nat → ClassId} {A : Nat → Prop} {o0 : Nat} {a0 : Nat → Nat} {N : Nat} {y : Int32 × zSt} (C0 : zCx p s m args meth c cX6_readWord 4 (some .int) RX6 (dC, dI) cy) (f1 : (Nat → Int32)) (v1 : Int32) (hA : ∀ q, s.heap.size ≤ q → A q) : ∀ (n : Nat) (s0 : zSt) (v2 : Int64) {H : Heap} {locs : List Loc} (hP : va_P (dC, dI) vwCl (wd_Reader_readWord cy o0 a0 (zI s0) (zL s0) (zB s0 3) f1) H) (hD : va_D A (wd_Reader_readWord cy o0 a0 (zI s0) (zL s0) (zB s0 3) f1)) (hS : va_S A s.heap H locs) (hf : Reader_readWord_h7 N f1 v1 n s0 v2 = some y) (ls : Array Slot) (hl : lv_has ls 4 [(0, .ref o0), (1, .int v1), (2, .long v2)]), W p l e rm_Reader_readWord s m args below meth c H locs 0 0 (MQ below (zQi y.1 (dC, dI) cy (wd_Reader_readWord cy o0 a0 (zI y.2) (zL y.2) (zB y.2 3) f1) A) args s 0 0 A) (F0 m 7 ls []) := by
  intro n
  induction n with
  | zero => intro s0 v2 H locs hP hD hS hf; cases hf
  | succ n ih =>
    intro s0 v2 H locs hP hD hS hf ls hl
    have hf : Reader_readWord_b7 N (Reader_readWord_h7 N f1 v1 n) s0 f1 v1 v2 = some y := hf
    exact k_Reader_readWord_b7 C0 s0 f1 v1 v2 (fun s0 v2 _ _ hP hD hS hf ls hl => ih s0 v2 hP hD hS hf ls hl) hA hP hD hS hf ls hl
set_option maxHeartbeats 4000000 in
set_option maxRecDepth 100000 in
theorem k_Reader_readWord_b0 {p : Program} {l : Launch} {e : Env} {s : State} {m : MethodId} {args : Array Value} {below : List Frame} {meth : Method} {c : Code} {dC : Nat → ClassId} {dI : Nat → Nat → Nat} {cy : Nat → ClassId} {A : Nat → Prop} {o0 : Nat} {a0 : Nat → Nat} {N : Nat} {y : Int32 × zSt} (C0 : zCx p s m args meth c cX6_readWord 4 (some .int) RX6 (dC, dI) cy) (s0 : zSt) (f1 : Nat → Int32) (hA : ∀ q, s.heap.size ≤ q → A q) {H : Heap} {locs : List Loc} (hP : va_P (dC, dI) vwCl (wd_Reader_readWord cy o0 a0 (zI s0) (zL s0) (zB s0 3) f1) H) (hD : va_D A (wd_Reader_readWord cy o0 a0 (zI s0) (zL s0) (zB s0 3) f1)) (hS : va_S A s.heap H locs) (hf : Reader_readWord_b0 N s0 f1 = some y) (ls : Array Slot) (hl : lv_has ls 4 [(0, .ref o0)]) : W p l e rm_Reader_readWord s m args below meth c H locs 0 0 (MQ below (zQi y.1 (dC, dI) cy (wd_Reader_readWord cy o0 a0 (zI y.2) (zL y.2) (zB y.2 3) f1) A) args s 0 0 A) (F0 m 0 ls []) := by
  obtain ⟨hx, hb, hr, hml, hown, hT, hk, hK⟩ := id C0
  refine lv_aload_n hx hb dX6_readWord_0 rfl (lv_at hl 0 rfl) ?_
  refine zget (v := .int (zI s0 6)) hx hb hown hT hK hP inX6 rfl smX6 0 rfl 6 (by decide) tb_47 rfl dX6_readWord_1 ?_
  refine lv_istore_n (lv' := [(1, .int (zI s0 6)), (0, .ref o0)]) hx hb dX6_readWord_4 rfl hl (by decide) rfl (fun ls hl => ?_)
  refine lv_lconst (v := 0) hx hb dX6_readWord_5 rfl ?_
  refine lv_lstore_n (lv' := [(2, .long 0), (1, .int (zI s0 6)), (0, .ref o0)]) hx hb dX6_readWord_6 rfl hl (by decide) rfl (fun ls hl => ?_)
  exact k_Reader_readWord_h7 C0 f1 (zI s0 6)  hA N s0 0 hP hD hS hf _ (lv_sub hl [2, 1, 0] rfl)
set_option maxHeartbeats 4000000 in
set_option maxRecDepth 100000 in
theorem c_Reader_readWord {l : Launch} {dC : Nat → ClassId} {dI : Nat → Nat → Nat} {cy : Nat → ClassId} {sz : Nat} {N : Nat} (o0 : Nat) (a0 : Nat → Nat) (s0 : zSt) (f1 : Nat → Int32) {y : Int32 × zSt} (hf : Reader_readWord N s0 f1 = some y) : Met l yX6_readWord (.code yX6_readWord cX6_readWord 4 (some .int) :: zt) rm_Reader_readWord (va_Pc [.ref o0] (zPre (dC, dI) cy (wd_Reader_readWord cy o0 a0 (zI s0) (zL s0) (zB s0 3) f1) sz)) (zQi y.1 (dC, dI) cy (wd_Reader_readWord cy o0 a0 (zI y.2) (zL y.2) (zB y.2 3) f1) (va_A (wd_Reader_readWord cy o0 a0 (zI s0) (zL s0) (zB s0 3) f1) sz)) 0 0 (va_A (wd_Reader_readWord cy o0 a0 (zI s0) (zL s0) (zB s0 3) f1) sz) :=
  zentW (Qw := fun A => (zQi y.1 (dC, dI) cy (wd_Reader_readWord cy o0 a0 (zI y.2) (zL y.2) (zB y.2 3) f1) A)) (by decide +kernel) (Nat.le_of_ble_eq_true rfl) (fun p e s m below meth c A C0 hA hP hD hS ls hl => k_Reader_readWord_b0 C0 s0 f1 hA hP hD hS hf ls hl)
def wd_Reader_isDigit (cy : Nat → ClassId) : va_W := []
def rm_Reader_isDigit : Room := { frames := 2, cells := 0, slots := 0, locals := 62 }
theorem rm_ok_Reader_isDigit_CH_within : rm_CH_within.cells = 0 ∧ rm_CH_within.slots = 0 ∧ rm_CH_within.frames + 1 ≤ rm_Reader_isDigit.frames ∧ 8 + (3 + 11) + rm_CH_within.locals ≤ rm_Reader_isDigit.locals := by decide
set_option maxHeartbeats 4000000 in
set_option maxRecDepth 100000 in
theorem k_Reader_isDigit_b0 {p : Program} {l : Launch} {e : Env} {s : State} {m : MethodId} {args : Array Value} {below : List Frame} {meth : Method} {c : Code} {dC : Nat → ClassId} {dI : Nat → Nat → Nat} {cy : Nat → ClassId} {N : Nat} {y : Int32} (C0 : zCx p s m args meth c cX6_isDigit 1 (some .boolean) RX6 (dC, dI) cy) (v0 : Int32) (hP : va_P (dC, dI) vwCl (wd_Reader_isDigit cy) s.heap) (hf : Reader_isDigit_b0 N v0 = some y) (ls : Array Slot) (hl : lv_has ls 1 [(0, .int v0)]) : W p l e rm_Reader_isDigit s m args below meth c s.heap [] 0 0 (MQ below (zSi y) args s 0 0 (fun _ => False)) (F0 m 0 ls []) := by
  obtain ⟨hx, hb, hr, hml, hown, hT, hk, hK⟩ := id C0
  refine lv_iload_n hx hb dX6_isDigit_0 rfl (lv_at hl 0 rfl) ?_
  refine lv_bipush (v := 48) hx hb dX6_isDigit_1 (by decide) ?_
  refine lv_bipush (v := 57) hx hb dX6_isDigit_3 (by decide) ?_
  obtain ⟨z1, hc2, hf⟩ := zbd_some hf
  refine zri (zSN (As := [.int v0, .int 48, .int 57]) hx hb hml hown hT hl.1 (c_CH_within v0 48 57 hc2) zY_CH_within hK nl_10 (zpS hK hP [] rfl) rm_ok_Reader_isDigit_CH_within rfl rfl (Nat.le_of_ble_eq_true rfl) dX6_isDigit_5 ⟨Nat.zero_le _, Nat.zero_le _⟩) ?_
  obtain ⟨hq3, hf⟩ := zcb_some hf
  cases hf
  exact zerz hx hb hr hk hq3 dX6_isDigit_8
set_option maxHeartbeats 4000000 in
set_option maxRecDepth 100000 in
theorem c_Reader_isDigit {l : Launch} {dC : Nat → ClassId} {dI : Nat → Nat → Nat} {cy : Nat → ClassId} {N : Nat} (v0 : Int32) {y : Int32} (hf : Reader_isDigit N v0 = some y) : Met l yX6_isDigit (.code yX6_isDigit cX6_isDigit 1 (some .boolean) :: zt) rm_Reader_isDigit (va_Pc [.int v0] (zRd (dC, dI) cy (wd_Reader_isDigit cy))) (zSi y) 0 0 (fun _ => False) :=
  zentR (by decide +kernel) (Nat.le_of_ble_eq_true rfl) (fun p e s m below meth c C0 hP ls hl => k_Reader_isDigit_b0 C0 v0 hP hf ls hl)
def wd_Reader_readNumber (cy : Nat → ClassId) (o0 : Nat) (a0 : Nat → Nat) (g0 : Nat → Int32) (h0 : Nat → Int64) (x0_3 : Nat → Int64) (f1 : Nat → Int32) : va_W := [(o0, .inr (6, fs_Reader a0 g0 h0)), (a0 3, .inl (cy 1, 205, .inr (.inl x0_3))), ((a0 4), .inl (cy 2, 1500, .inl f1))]
def rm_Reader_readNumber : Room := { frames := 3, cells := 0, slots := 0, locals := 82 }
theorem rm_ok_Reader_readNumber_Reader_isDigit : rm_Reader_isDigit.cells = 0 ∧ rm_Reader_isDigit.slots = 0 ∧ rm_Reader_isDigit.frames + 1 ≤ rm_Reader_readNumber.frames ∧ 8 + (1 + 11) + rm_Reader_isDigit.locals ≤ rm_Reader_readNumber.locals := by decide
theorem rm_ok_Reader_readNumber_Reader_isLetter : rm_Reader_isLetter.cells = 0 ∧ rm_Reader_isLetter.slots = 0 ∧ rm_Reader_isLetter.frames + 1 ≤ rm_Reader_readNumber.frames ∧ 8 + (1 + 11) + rm_Reader_isLetter.locals ≤ rm_Reader_readNumber.locals := by decide
set_option maxHeartbeats 4000000 in
set_option maxRecDepth 100000 in
theorem k_Reader_readNumber_b108 {p : Program} {l : Launch} {e : Env} {s : State} {m : MethodId} {args : Array Value} {below : List Frame} {meth : Method} {c : Code} {dC : Nat → ClassId} {dI : Nat → Nat → Nat} {cy : Nat → ClassId} {A : Nat → Prop} {o0 : Nat} {a0 : Nat → Nat} {N : Nat} {y : Int32 × zSt} (C0 : zCx p s m args meth c cX6_readNumber 5 (some .int) RX6 (dC, dI) cy) (s0 : zSt) (f1 : Nat → Int32) (v1 : Int32) (t0 : Int32) (hA : ∀ q, s.heap.size ≤ q → A q) {H : Heap} {locs : List Loc} (hP : va_P (dC, dI) vwCl (wd_Reader_readNumber cy o0 a0 (zI s0) (zL s0) (zB s0 3) f1) H) (hD : va_D A (wd_Reader_readNumber cy o0 a0 (zI s0) (zL s0) (zB s0 3) f1)) (hS : va_S A s.heap H locs) (hf : Reader_readNumber_b108 N s0 f1 v1 t0 = some y) (ls : Array Slot) (hl : lv_has ls 5 [(0, .ref o0), (1, .int v1)]) : W p l e rm_Reader_readNumber s m args below meth c H locs 0 0 (MQ below (zQi y.1 (dC, dI) cy (wd_Reader_readNumber cy o0 a0 (zI y.2) (zL y.2) (zB y.2 3) f1) A) args s 0 0 A) (F0 m 108 ls [.int t0]) := by
  obtain ⟨hx, hb, hr, hml, hown, hT, hk, hK⟩ := id C0
  refine lv_istore (lv' := [(4, .int t0), (0, .ref o0), (1, .int v1)]) hx hb dX6_readNumber_108 hl (by decide) rfl (fun ls hl => ?_)
  refine lv_aload_n hx hb dX6_readNumber_110 rfl (lv_at hl 1 rfl) ?_
  refine zget (v := .int (zI s0 6)) hx hb hown hT hK hP inX6 rfl smX6 0 rfl 6 (by decide) tb_47 rfl dX6_readNumber_111 ?_
  refine lv_iload_n hx hb dX6_readNumber_114 rfl (lv_at hl 2 rfl) ?_
  refine lv_isub hx hb dX6_readNumber_115 ?_
  refine lv_iconst (v := 4) hx hb dX6_readNumber_116 (by decide) ?_
  refine lv_icmp_gt (tgt := 129) hx hb dX6_readNumber_117 (by decide) (fun hb_1 => ?_) (fun hb_1 => ?_)
  · have hf := zif_t hb_1 hf
    refine lv_iconst (v := 1) hx hb dX6_readNumber_129 (by decide) ?_
    cases hf
    exact zewi hx hb hr hk hK hP hD hS dX6_readNumber_130
  · have hf := zif_f hb_1 hf
    refine lv_iload hx hb dX6_readNumber_120 (lv_at hl 0 rfl) ?_
    refine lv_if_ne (tgt := 129) hx hb dX6_readNumber_122 (by decide) (fun hb_2 => ?_) (fun hb_2 => ?_)
    · have hf := zif_f hb_2 hf
      refine lv_iconst (v := 1) hx hb dX6_readNumber_129 (by decide) ?_
      cases hf
      exact zewi hx hb hr hk hK hP hD hS dX6_readNumber_130
    · have hf := zif_t hb_2 hf
      refine lv_iconst (v := 3) hx hb dX6_readNumber_125 (by decide) ?_
      refine lv_goto (tgt := 130) hx hb dX6_readNumber_126 (by decide) ?_
      cases hf
      exact zewi hx hb hr hk hK hP hD hS dX6_readNumber_130
set_option maxHeartbeats 4000000 in
set_option maxRecDepth 100000 in
theorem k_Reader_readNumber_b107 {p : Program} {l : Launch} {e : Env} {s : State} {m : MethodId} {args : Array Value} {below : List Frame} {meth : Method} {c : Code} {dC : Nat → ClassId} {dI : Nat → Nat → Nat} {cy : Nat → ClassId} {A : Nat → Prop} {o0 : Nat} {a0 : Nat → Nat} {N : Nat} {y : Int32 × zSt} (C0 : zCx p s m args meth c cX6_readNumber 5 (some .int) RX6 (dC, dI) cy) (s0 : zSt) (f1 : Nat → Int32) (v1 : Int32) (hA : ∀ q, s.heap.size ≤ q → A q) {H : Heap} {locs : List Loc} (hP : va_P (dC, dI) vwCl (wd_Reader_readNumber cy o0 a0 (zI s0) (zL s0) (zB s0 3) f1) H) (hD : va_D A (wd_Reader_readNumber cy o0 a0 (zI s0) (zL s0) (zB s0 3) f1)) (hS : va_S A s.heap H locs) (hf : Reader_readNumber_b107 N s0 f1 v1 = some y) (ls : Array Slot) (hl : lv_has ls 5 [(0, .ref o0), (1, .int v1)]) : W p l e rm_Reader_readNumber s m args below meth c H locs 0 0 (MQ below (zQi y.1 (dC, dI) cy (wd_Reader_readNumber cy o0 a0 (zI y.2) (zL y.2) (zB y.2 3) f1) A) args s 0 0 A) (F0 m 107 ls []) := by
  obtain ⟨hx, hb, hr, hml, hown, hT, hk, hK⟩ := id C0
  refine lv_iconst (v := 0) hx hb dX6_readNumber_107 (by decide) ?_
  exact k_Reader_readNumber_b108 C0 s0 f1 v1 0  hA hP hD hS hf _ (lv_sub hl [0, 1] rfl)
set_option maxHeartbeats 4000000 in
set_option maxRecDepth 100000 in
theorem k_Reader_readNumber_b67 {p : Program} {l : Launch} {e : Env} {s : State} {m : MethodId} {args : Array Value} {below : List Frame} {meth : Method} {c : Code} {dC : Nat → ClassId} {dI : Nat → Nat → Nat} {cy : Nat → ClassId} {A : Nat → Prop} {o0 : Nat} {a0 : Nat → Nat} {N : Nat} {y : Int32 × zSt} (C0 : zCx p s m args meth c cX6_readNumber 5 (some .int) RX6 (dC, dI) cy) (s0 : zSt) (f1 : Nat → Int32) (v1 : Int32) (v2 : Int64) (hA : ∀ q, s.heap.size ≤ q → A q) {H : Heap} {locs : List Loc} (hP : va_P (dC, dI) vwCl (wd_Reader_readNumber cy o0 a0 (zI s0) (zL s0) (zB s0 3) f1) H) (hD : va_D A (wd_Reader_readNumber cy o0 a0 (zI s0) (zL s0) (zB s0 3) f1)) (hS : va_S A s.heap H locs) (hf : Reader_readNumber_b67 N s0 f1 v1 v2 = some y) (ls : Array Slot) (hl : lv_has ls 5 [(0, .ref o0), (1, .int v1), (2, .long v2)]) : W p l e rm_Reader_readNumber s m args below meth c H locs 0 0 (MQ below (zQi y.1 (dC, dI) cy (wd_Reader_readNumber cy o0 a0 (zI y.2) (zL y.2) (zB y.2 3) f1) A) args s 0 0 A) (F0 m 67 ls []) := by
  obtain ⟨hx, hb, hr, hml, hown, hT, hk, hK⟩ := id C0
  refine lv_aload_n hx hb dX6_readNumber_67 rfl (lv_at hl 0 rfl) ?_
  refine zget (v := .ref (a0 3)) hx hb hown hT hK hP inX6 rfl smX6 0 rfl 3 (by decide) tb_43 rfl dX6_readNumber_68 ?_
  refine lv_aload_n hx hb dX6_readNumber_71 rfl (lv_at hl 0 rfl) ?_
  refine zget (v := .int (zI s0 0)) hx hb hown hT hK hP inX6 rfl smX6 0 rfl 0 (by decide) tb_37 rfl dX6_readNumber_72 ?_
  refine lv_lload_n hx hb dX6_readNumber_75 rfl (lv_at hl 2 rfl) ?_
  obtain ⟨hi1, hf⟩ := zck_some hf
  refine zlst (ws' := (wd_Reader_readNumber cy o0 a0 (zI s0) (zL s0) (vp_updL (zB s0 3) (Int32.toNatClampNeg (zI s0 0)) v2) f1)) hx hb hK hP hD hS 1 1 rfl rfl hi1 rfl dX6_readNumber_76 (fun H locs hP hD hS => ?_)
  refine lv_aload_n hx hb dX6_readNumber_77 rfl (lv_at hl 0 rfl) ?_
  refine zget (v := .int (zI s0 6)) hx hb hown hT hK hP inX6 rfl smX6 0 rfl 6 (by decide) tb_47 rfl dX6_readNumber_78 ?_
  refine lv_aload_n hx hb dX6_readNumber_81 rfl (lv_at hl 0 rfl) ?_
  refine zget (v := .int (zI s0 5)) hx hb hown hT hK hP inX6 rfl smX6 0 rfl 5 (by decide) tb_46 rfl dX6_readNumber_82 ?_
  refine lv_icmp_ge (tgt := 107) hx hb dX6_readNumber_85 (by decide) (fun hb_2 => ?_) (fun hb_2 => ?_)
  · have hf := zif_t hb_2 hf
    exact k_Reader_readNumber_b107 C0 (zsB s0 3 (vp_updL (zB s0 3) (Int32.toNatClampNeg (zI s0 0)) v2)) f1 v1  hA hP hD hS hf _ (lv_sub hl [0, 1] rfl)
  · have hf := zif_f hb_2 hf
    refine lv_aload_n hx hb dX6_readNumber_88 rfl (lv_at hl 0 rfl) ?_
    refine zget (v := .ref (a0 4)) hx hb hown hT hK hP inX6 rfl smX6 0 rfl 4 (by decide) tb_45 rfl dX6_readNumber_89 ?_
    refine lv_aload_n hx hb dX6_readNumber_92 rfl (lv_at hl 0 rfl) ?_
    refine zget (v := .int (zI s0 6)) hx hb hown hT hK hP inX6 rfl smX6 0 rfl 6 (by decide) tb_47 rfl dX6_readNumber_93 ?_
    obtain ⟨hi3, hf⟩ := zck_some hf
    refine va_bald hx hb hK.1 hP 2 2 rfl rfl hi3 dX6_readNumber_96 ?_
    obtain ⟨z4, hc5, hf⟩ := zbd_some hf
    refine zri (zS (As := [.int (f1 (Int32.toNatClampNeg (zI s0 6)))]) hx hb hml hown hT hl.1 (c_Reader_isLetter (f1 (Int32.toNatClampNeg (zI s0 6))) hc5) zY_Reader_isLetter tb_525 (zpS hK hP [] rfl) rm_ok_Reader_readNumber_Reader_isLetter rfl rfl (Nat.le_of_ble_eq_true rfl) dX6_readNumber_97 ⟨Nat.zero_le _, Nat.zero_le _⟩) ?_
    refine lv_if_eq (tgt := 107) hx hb dX6_readNumber_100 (by decide) (fun hb_6 => ?_) (fun hb_6 => ?_)
    · have hf := zif_t hb_6 hf
      exact k_Reader_readNumber_b107 C0 (zsB s0 3 (vp_updL (zB s0 3) (Int32.toNatClampNeg (zI s0 0)) v2)) f1 v1  hA hP hD hS hf _ (lv_sub hl [0, 1] rfl)
    · have hf := zif_f hb_6 hf
      refine lv_iconst (v := 1) hx hb dX6_readNumber_103 (by decide) ?_
      refine lv_goto (tgt := 108) hx hb dX6_readNumber_104 (by decide) ?_
      exact k_Reader_readNumber_b108 C0 (zsB s0 3 (vp_updL (zB s0 3) (Int32.toNatClampNeg (zI s0 0)) v2)) f1 v1 1  hA hP hD hS hf _ (lv_sub hl [0, 1] rfl)
set_option maxHeartbeats 4000000 in
set_option maxRecDepth 100000 in
theorem k_Reader_readNumber_b7 {p : Program} {l : Launch} {e : Env} {s : State} {m : MethodId} {args : Array Value} {below : List Frame} {meth : Method} {c : Code} {dC : Nat → ClassId} {dI : Nat → Nat → Nat} {cy : Nat → ClassId} {A : Nat → Prop} {o0 : Nat} {a0 : Nat → Nat} {N : Nat} {kh7 : zSt → Int64 → Option (Int32 × zSt)} {y : Int32 × zSt} (C0 : zCx p s m args meth c cX6_readNumber 5 (some .int) RX6 (dC, dI) cy) (s0 : zSt) (f1 : Nat → Int32) (v1 : Int32) (v2 : Int64) (hk7 : ∀ (s0 : zSt) (v2 : Int64) {H : Heap} {locs : List Loc} (_ : va_P (dC, dI) vwCl (wd_Reader_readNumber cy o0 a0 (zI s0) (zL s0) (zB s0 3) f1) H) (_ : va_D A (wd_Reader_readNumber cy o0 a0 (zI s0) (zL s0) (zB s0 3) f1)) (_ : va_S A s.heap H locs) (_ : kh7 s0 v2 = some y) (ls : Array Slot) (_ : lv_has ls 5 [(0, .ref o0), (1, .int v1), (2, .long v2)]), W p l e rm_Reader_readNumber s m args below meth c H locs 0 0 (MQ below (zQi y.1 (dC, dI) cy (wd_Reader_readNumber cy o0 a0 (zI y.2) (zL y.2) (zB y.2 3) f1) A) args s 0 0 A) (F0 m 7 ls [])) (hA : ∀ q, s.heap.size ≤ q → A q) {H : Heap} {locs : List Loc} (hP : va_P (dC, dI) vwCl (wd_Reader_readNumber cy o0 a0 (zI s0) (zL s0) (zB s0 3) f1) H) (hD : va_D A (wd_Reader_readNumber cy o0 a0 (zI s0) (zL s0) (zB s0 3) f1)) (hS : va_S A s.heap H locs) (hf : Reader_readNumber_b7 N kh7 s0 f1 v1 v2 = some y) (ls : Array Slot) (hl : lv_has ls 5 [(0, .ref o0), (1, .int v1), (2, .long v2)]) : W p l e rm_Reader_readNumber s m args below meth c H locs 0 0 (MQ below (zQi y.1 (dC, dI) cy (wd_Reader_readNumber cy o0 a0 (zI y.2) (zL y.2) (zB y.2 3) f1) A) args s 0 0 A) (F0 m 7 ls []) := by
  obtain ⟨hx, hb, hr, hml, hown, hT, hk, hK⟩ := id C0
  refine lv_aload_n hx hb dX6_readNumber_7 rfl (lv_at hl 0 rfl) ?_
  refine zget (v := .int (zI s0 6)) hx hb hown hT hK hP inX6 rfl smX6 0 rfl 6 (by decide) tb_47 rfl dX6_readNumber_8 ?_
  refine lv_aload_n hx hb dX6_readNumber_11 rfl (lv_at hl 0 rfl) ?_
  refine zget (v := .int (zI s0 5)) hx hb hown hT hK hP inX6 rfl smX6 0 rfl 5 (by decide) tb_46 rfl dX6_readNumber_12 ?_
  refine lv_icmp_ge (tgt := 67) hx hb dX6_readNumber_15 (by decide) (fun hb_1 => ?_) (fun hb_1 => ?_)
  · have hf := zif_t hb_1 hf
    exact k_Reader_readNumber_b67 C0 s0 f1 v1 v2  hA hP hD hS hf _ (lv_sub hl [0, 1, 2] rfl)
  · have hf := zif_f hb_1 hf
    refine lv_aload_n hx hb dX6_readNumber_18 rfl (lv_at hl 0 rfl) ?_
    refine zget (v := .ref (a0 4)) hx hb hown hT hK hP inX6 rfl smX6 0 rfl 4 (by decide) tb_45 rfl dX6_readNumber_19 ?_
    refine lv_aload_n hx hb dX6_readNumber_22 rfl (lv_at hl 0 rfl) ?_
    refine zget (v := .int (zI s0 6)) hx hb hown hT hK hP inX6 rfl smX6 0 rfl 6 (by decide) tb_47 rfl dX6_readNumber_23 ?_
    obtain ⟨hi2, hf⟩ := zck_some hf
    refine va_bald hx hb hK.1 hP 2 2 rfl rfl hi2 dX6_readNumber_26 ?_
    obtain ⟨z3, hc4, hf⟩ := zbd_some hf
    refine zri (zS (As := [.int (f1 (Int32.toNatClampNeg (zI s0 6)))]) hx hb hml hown hT hl.1 (c_Reader_isDigit (f1 (Int32.toNatClampNeg (zI s0 6))) hc4) zY_Reader_isDigit tb_533 (zpS hK hP [] rfl) rm_ok_Reader_readNumber_Reader_isDigit rfl rfl (Nat.le_of_ble_eq_true rfl) dX6_readNumber_27 ⟨Nat.zero_le _, Nat.zero_le _⟩) ?_
    refine lv_if_eq (tgt := 67) hx hb dX6_readNumber_30 (by decide) (fun hb_5 => ?_) (fun hb_5 => ?_)
    · have hf := zif_t hb_5 hf
      exact k_Reader_readNumber_b67 C0 s0 f1 v1 v2  hA hP hD hS hf _ (lv_sub hl [0, 1, 2] rfl)
    · have hf := zif_f hb_5 hf
      refine lv_lload_n hx hb dX6_readNumber_33 rfl (lv_at hl 2 rfl) ?_
      refine lv_ldc2 (v := 10) hx hb hown (hT _ tb_540) dX6_readNumber_34 ?_
      refine lv_lmul hx hb dX6_readNumber_37 ?_
      refine lv_aload_n hx hb dX6_readNumber_38 rfl (lv_at hl 0 rfl) ?_
      refine zget (v := .ref (a0 4)) hx hb hown hT hK hP inX6 rfl smX6 0 rfl 4 (by decide) tb_45 rfl dX6_readNumber_39 ?_
      refine lv_aload_n hx hb dX6_readNumber_42 rfl (lv_at hl 0 rfl) ?_
      refine zget (v := .int (zI s0 6)) hx hb hown hT hK hP inX6 rfl smX6 0 rfl 6 (by decide) tb_47 rfl dX6_readNumber_43 ?_
      obtain ⟨hi6, hf⟩ := zck_some hf
      refine va_bald hx hb hK.1 hP 2 2 rfl rfl hi6 dX6_readNumber_46 ?_
      refine lv_i2l (v := Int32.toInt64 (f1 (Int32.toNatClampNeg (zI s0 6)))) hx hb dX6_readNumber_47 rfl ?_
      refine lv_ladd hx hb dX6_readNumber_48 ?_
      refine lv_ldc2 (v := 48) hx hb hown (hT _ tb_541) dX6_readNumber_49 ?_
      refine lv_lsub hx hb dX6_readNumber_52 ?_
      refine lv_lstore_n (lv' := [(2, .long (((v2 * 10) + (Int32.toInt64 (f1 (Int32.toNatClampNeg (zI s0 6))))) - 48)), (0, .ref o0), (1, .int v1)]) hx hb dX6_readNumber_53 rfl hl (by decide) rfl (fun ls hl => ?_)
      refine lv_aload_n hx hb dX6_readNumber_54 rfl (lv_at hl 1 rfl) ?_
      refine lv_dup hx hb dX6_readNumber_55 rfl ?_
      refine zget (v := .int (zI s0 6)) hx hb hown hT hK hP inX6 rfl smX6 0 rfl 6 (by decide) tb_47 rfl dX6_readNumber_56 ?_
      refine lv_iconst (v := 1) hx hb dX6_readNumber_59 (by decide) ?_
      refine lv_iadd hx hb dX6_readNumber_60 ?_
      refine zput (fs' := fs_Reader a0 (upd (zI s0) 6 ((zI s0 6) + 1)) (zL s0)) (ws' := (wd_Reader_readNumber cy o0 a0 (upd (zI s0) 6 ((zI s0 6) + 1)) (zL s0) (zB s0 3) f1)) hx hb hown hT hK hP hD hS inX6 rfl smX6 tyX6_ok nmX6 0 rfl 6 (by decide) tb_47 rfl rfl rfl (Nat.le_of_ble_eq_true rfl) rfl rfl dX6_readNumber_61 (fun H locs hP hD hS => ?_)
      refine lv_goto (tgt := 7) hx hb dX6_readNumber_64 (by decide) ?_
      exact hk7 (zpI s0 6 ((zI s0 6) + 1)) (((v2 * 10) + (Int32.toInt64 (f1 (Int32.toNatClampNeg (zI s0 6))))) - 48) hP hD hS hf _ (lv_sub hl [1, 2, 0] rfl)
set_option maxHeartbeats 4000000 in
set_option maxRecDepth 100000 in
theorem k_Reader_readNumber_h7 {p : Program} {l : Launch} {e : Env} {s : State} {m : MethodId} {args : Array Value} {below : List Frame} {meth : Method} {c : Code} {dC : Nat → ClassId} {dI : Nat → Nat → Nat} {cy : Nat → ClassId} {A : Nat → Prop} {o0 : Nat} {a0 : Nat → Nat} {N : Nat} {y : Int32 × zSt} (C0 : zCx p s m args meth c cX6_readNumber 5 (some .int) RX6 (dC, dI) cy) (f1 : (Nat → Int32)) (v1 : Int32) (hA : ∀ q, s.heap.size ≤ q → A q) : ∀ (n : Nat) (s0 : zSt) (v2 : Int64) {H : Heap} {locs : List Loc} (hP : va_P (dC, dI) vwCl (wd_Reader_readNumber cy o0 a0 (zI s0) (zL s0) (zB s0 3) f1) H) (hD : va_D A (wd_Reader_readNumber cy o0 a0 (zI s0) (zL s0) (zB s0 3) f1)) (hS : va_S A s.heap H locs) (hf : Reader_readNumber_h7 N f1 v1 n s0 v2 = some y) (ls : Array Slot) (hl : lv_has ls 5 [(0, .ref o0), (1, .int v1), (2, .long v2)]), W p l e rm_Reader_readNumber s m args below meth c H locs 0 0 (MQ below (zQi y.1 (dC, dI) cy (wd_Reader_readNumber cy o0 a0 (zI y.2) (zL y.2) (zB y.2 3) f1) A) args s 0 0 A) (F0 m 7 ls []) := by
  intro n
  induction n with
  | zero => intro s0 v2 H locs hP hD hS hf; cases hf
  | succ n ih =>
    intro s0 v2 H locs hP hD hS hf ls hl
    have hf : Reader_readNumber_b7 N (Reader_readNumber_h7 N f1 v1 n) s0 f1 v1 v2 = some y := hf
    exact k_Reader_readNumber_b7 C0 s0 f1 v1 v2 (fun s0 v2 _ _ hP hD hS hf ls hl => ih s0 v2 hP hD hS hf ls hl) hA hP hD hS hf ls hl
set_option maxHeartbeats 4000000 in
set_option maxRecDepth 100000 in
theorem k_Reader_readNumber_b0 {p : Program} {l : Launch} {e : Env} {s : State} {m : MethodId} {args : Array Value} {below : List Frame} {meth : Method} {c : Code} {dC : Nat → ClassId} {dI : Nat → Nat → Nat} {cy : Nat → ClassId} {A : Nat → Prop} {o0 : Nat} {a0 : Nat → Nat} {N : Nat} {y : Int32 × zSt} (C0 : zCx p s m args meth c cX6_readNumber 5 (some .int) RX6 (dC, dI) cy) (s0 : zSt) (f1 : Nat → Int32) (hA : ∀ q, s.heap.size ≤ q → A q) {H : Heap} {locs : List Loc} (hP : va_P (dC, dI) vwCl (wd_Reader_readNumber cy o0 a0 (zI s0) (zL s0) (zB s0 3) f1) H) (hD : va_D A (wd_Reader_readNumber cy o0 a0 (zI s0) (zL s0) (zB s0 3) f1)) (hS : va_S A s.heap H locs) (hf : Reader_readNumber_b0 N s0 f1 = some y) (ls : Array Slot) (hl : lv_has ls 5 [(0, .ref o0)]) : W p l e rm_Reader_readNumber s m args below meth c H locs 0 0 (MQ below (zQi y.1 (dC, dI) cy (wd_Reader_readNumber cy o0 a0 (zI y.2) (zL y.2) (zB y.2 3) f1) A) args s 0 0 A) (F0 m 0 ls []) := by
  obtain ⟨hx, hb, hr, hml, hown, hT, hk, hK⟩ := id C0
  refine lv_aload_n hx hb dX6_readNumber_0 rfl (lv_at hl 0 rfl) ?_
  refine zget (v := .int (zI s0 6)) hx hb hown hT hK hP inX6 rfl smX6 0 rfl 6 (by decide) tb_47 rfl dX6_readNumber_1 ?_
  refine lv_istore_n (lv' := [(1, .int (zI s0 6)), (0, .ref o0)]) hx hb dX6_readNumber_4 rfl hl (by decide) rfl (fun ls hl => ?_)
  refine lv_lconst (v := 0) hx hb dX6_readNumber_5 rfl ?_
  refine lv_lstore_n (lv' := [(2, .long 0), (1, .int (zI s0 6)), (0, .ref o0)]) hx hb dX6_readNumber_6 rfl hl (by decide) rfl (fun ls hl => ?_)
  exact k_Reader_readNumber_h7 C0 f1 (zI s0 6)  hA N s0 0 hP hD hS hf _ (lv_sub hl [2, 1, 0] rfl)
set_option maxHeartbeats 4000000 in
set_option maxRecDepth 100000 in
theorem c_Reader_readNumber {l : Launch} {dC : Nat → ClassId} {dI : Nat → Nat → Nat} {cy : Nat → ClassId} {sz : Nat} {N : Nat} (o0 : Nat) (a0 : Nat → Nat) (s0 : zSt) (f1 : Nat → Int32) {y : Int32 × zSt} (hf : Reader_readNumber N s0 f1 = some y) : Met l yX6_readNumber (.code yX6_readNumber cX6_readNumber 5 (some .int) :: zt) rm_Reader_readNumber (va_Pc [.ref o0] (zPre (dC, dI) cy (wd_Reader_readNumber cy o0 a0 (zI s0) (zL s0) (zB s0 3) f1) sz)) (zQi y.1 (dC, dI) cy (wd_Reader_readNumber cy o0 a0 (zI y.2) (zL y.2) (zB y.2 3) f1) (va_A (wd_Reader_readNumber cy o0 a0 (zI s0) (zL s0) (zB s0 3) f1) sz)) 0 0 (va_A (wd_Reader_readNumber cy o0 a0 (zI s0) (zL s0) (zB s0 3) f1) sz) :=
  zentW (Qw := fun A => (zQi y.1 (dC, dI) cy (wd_Reader_readNumber cy o0 a0 (zI y.2) (zL y.2) (zB y.2 3) f1) A)) (by decide +kernel) (Nat.le_of_ble_eq_true rfl) (fun p e s m below meth c A C0 hA hP hD hS ls hl => k_Reader_readNumber_b0 C0 s0 f1 hA hP hD hS hf ls hl)
def wd_Reader_readToken (cy : Nat → ClassId) (o0 : Nat) (a0 : Nat → Nat) (g0 : Nat → Int32) (h0 : Nat → Int64) (x0_3 : Nat → Int64) (f1 : Nat → Int32) : va_W := [(o0, .inr (6, fs_Reader a0 g0 h0)), (a0 3, .inl (cy 1, 205, .inr (.inl x0_3))), ((a0 4), .inl (cy 2, 1500, .inl f1))]
def rm_Reader_readToken : Room := { frames := 4, cells := 0, slots := 0, locals := 106 }
theorem rm_ok_Reader_readToken_Reader_isDigit : rm_Reader_isDigit.cells = 0 ∧ rm_Reader_isDigit.slots = 0 ∧ rm_Reader_isDigit.frames + 1 ≤ rm_Reader_readToken.frames ∧ 8 + (1 + 11) + rm_Reader_isDigit.locals ≤ rm_Reader_readToken.locals := by decide
theorem rm_ok_Reader_readToken_Reader_isLetter : rm_Reader_isLetter.cells = 0 ∧ rm_Reader_isLetter.slots = 0 ∧ rm_Reader_isLetter.frames + 1 ≤ rm_Reader_readToken.frames ∧ 8 + (1 + 11) + rm_Reader_isLetter.locals ≤ rm_Reader_readToken.locals := by decide
theorem rm_ok_Reader_readToken_Reader_readNumber : rm_Reader_readNumber.cells = 0 ∧ rm_Reader_readNumber.slots = 0 ∧ rm_Reader_readNumber.frames + 1 ≤ rm_Reader_readToken.frames ∧ 8 + (5 + 11) + rm_Reader_readNumber.locals ≤ rm_Reader_readToken.locals := by decide
theorem rm_ok_Reader_readToken_Reader_readWord : rm_Reader_readWord.cells = 0 ∧ rm_Reader_readWord.slots = 0 ∧ rm_Reader_readWord.frames + 1 ≤ rm_Reader_readToken.frames ∧ 8 + (4 + 11) + rm_Reader_readWord.locals ≤ rm_Reader_readToken.locals := by decide
set_option maxHeartbeats 4000000 in
set_option maxRecDepth 100000 in
theorem k_Reader_readToken_b72 {p : Program} {l : Launch} {e : Env} {s : State} {m : MethodId} {args : Array Value} {below : List Frame} {meth : Method} {c : Code} {dC : Nat → ClassId} {dI : Nat → Nat → Nat} {cy : Nat → ClassId} {A : Nat → Prop} {o0 : Nat} {a0 : Nat → Nat} {N : Nat} {y : Int32 × zSt} (C0 : zCx p s m args meth c cX6_readToken 2 (some .int) RX6 (dC, dI) cy) (s0 : zSt) (f1 : Nat → Int32) (t0 : Int32) (hA : ∀ q, s.heap.size ≤ q → A q) {H : Heap} {locs : List Loc} (hP : va_P (dC, dI) vwCl (wd_Reader_readToken cy o0 a0 (zI s0) (zL s0) (zB s0 3) f1) H) (hD : va_D A (wd_Reader_readToken cy o0 a0 (zI s0) (zL s0) (zB s0 3) f1)) (hS : va_S A s.heap H locs) (hf : Reader_readToken_b72 N s0 f1 t0 = some y) (ls : Array Slot) (hl : lv_has ls 2 [(0, .ref o0)]) : W p l e rm_Reader_readToken s m args below meth c H locs 0 0 (MQ below (zQi y.1 (dC, dI) cy (wd_Reader_readToken cy o0 a0 (zI y.2) (zL y.2) (zB y.2 3) f1) A) args s 0 0 A) (F0 m 72 ls [.int t0]) := by
  obtain ⟨hx, hb, hr, hml, hown, hT, hk, hK⟩ := id C0
  refine lv_istore_n (lv' := [(1, .int t0), (0, .ref o0)]) hx hb dX6_readToken_72 rfl hl (by decide) rfl (fun ls hl => ?_)
  refine lv_aload_n hx hb dX6_readToken_73 rfl (lv_at hl 1 rfl) ?_
  refine lv_dup hx hb dX6_readToken_74 rfl ?_
  refine zget (v := .int (zI s0 6)) hx hb hown hT hK hP inX6 rfl smX6 0 rfl 6 (by decide) tb_47 rfl dX6_readToken_75 ?_
  refine lv_iconst (v := 1) hx hb dX6_readToken_78 (by decide) ?_
  refine lv_iadd hx hb dX6_readToken_79 ?_
  refine zput (fs' := fs_Reader a0 (upd (zI s0) 6 ((zI s0 6) + 1)) (zL s0)) (ws' := (wd_Reader_readToken cy o0 a0 (upd (zI s0) 6 ((zI s0 6) + 1)) (zL s0) (zB s0 3) f1)) hx hb hown hT hK hP hD hS inX6 rfl smX6 tyX6_ok nmX6 0 rfl 6 (by decide) tb_47 rfl rfl rfl (Nat.le_of_ble_eq_true rfl) rfl rfl dX6_readToken_80 (fun H locs hP hD hS => ?_)
  refine lv_iload_n hx hb dX6_readToken_83 rfl (lv_at hl 0 rfl) ?_
  refine lv_if_eq (tgt := 91) hx hb dX6_readToken_84 (by decide) (fun hb_1 => ?_) (fun hb_1 => ?_)
  · have hf := zif_t hb_1 hf
    refine lv_iconst (v := 1) hx hb dX6_readToken_91 (by decide) ?_
    cases hf
    exact zewi hx hb hr hk hK hP hD hS dX6_readToken_92
  · have hf := zif_f hb_1 hf
    refine lv_iconst (v := 4) hx hb dX6_readToken_87 (by decide) ?_
    refine lv_goto (tgt := 92) hx hb dX6_readToken_88 (by decide) ?_
    cases hf
    exact zewi hx hb hr hk hK hP hD hS dX6_readToken_92
set_option maxHeartbeats 4000000 in
set_option maxRecDepth 100000 in
theorem k_Reader_readToken_b0 {p : Program} {l : Launch} {e : Env} {s : State} {m : MethodId} {args : Array Value} {below : List Frame} {meth : Method} {c : Code} {dC : Nat → ClassId} {dI : Nat → Nat → Nat} {cy : Nat → ClassId} {A : Nat → Prop} {o0 : Nat} {a0 : Nat → Nat} {N : Nat} {y : Int32 × zSt} (C0 : zCx p s m args meth c cX6_readToken 2 (some .int) RX6 (dC, dI) cy) (s0 : zSt) (f1 : Nat → Int32) (hA : ∀ q, s.heap.size ≤ q → A q) {H : Heap} {locs : List Loc} (hP : va_P (dC, dI) vwCl (wd_Reader_readToken cy o0 a0 (zI s0) (zL s0) (zB s0 3) f1) H) (hD : va_D A (wd_Reader_readToken cy o0 a0 (zI s0) (zL s0) (zB s0 3) f1)) (hS : va_S A s.heap H locs) (hf : Reader_readToken_b0 N s0 f1 = some y) (ls : Array Slot) (hl : lv_has ls 2 [(0, .ref o0)]) : W p l e rm_Reader_readToken s m args below meth c H locs 0 0 (MQ below (zQi y.1 (dC, dI) cy (wd_Reader_readToken cy o0 a0 (zI y.2) (zL y.2) (zB y.2 3) f1) A) args s 0 0 A) (F0 m 0 ls []) := by
  obtain ⟨hx, hb, hr, hml, hown, hT, hk, hK⟩ := id C0
  refine lv_aload_n hx hb dX6_readToken_0 rfl (lv_at hl 0 rfl) ?_
  refine zget (v := .int (zI s0 6)) hx hb hown hT hK hP inX6 rfl smX6 0 rfl 6 (by decide) tb_47 rfl dX6_readToken_1 ?_
  refine lv_aload_n hx hb dX6_readToken_4 rfl (lv_at hl 0 rfl) ?_
  refine zget (v := .int (zI s0 5)) hx hb hown hT hK hP inX6 rfl smX6 0 rfl 5 (by decide) tb_46 rfl dX6_readToken_5 ?_
  refine lv_icmp_lt (tgt := 13) hx hb dX6_readToken_8 (by decide) (fun hb_1 => ?_) (fun hb_1 => ?_)
  · have hf := zif_t hb_1 hf
    refine lv_aload_n hx hb dX6_readToken_13 rfl (lv_at hl 0 rfl) ?_
    refine zget (v := .ref (a0 4)) hx hb hown hT hK hP inX6 rfl smX6 0 rfl 4 (by decide) tb_45 rfl dX6_readToken_14 ?_
    refine lv_aload_n hx hb dX6_readToken_17 rfl (lv_at hl 0 rfl) ?_
    refine zget (v := .int (zI s0 6)) hx hb hown hT hK hP inX6 rfl smX6 0 rfl 6 (by decide) tb_47 rfl dX6_readToken_18 ?_
    obtain ⟨hi2, hf⟩ := zck_some hf
    refine va_bald hx hb hK.1 hP 2 2 rfl rfl hi2 dX6_readToken_21 ?_
    obtain ⟨z3, hc4, hf⟩ := zbd_some hf
    refine zri (zS (As := [.int (f1 (Int32.toNatClampNeg (zI s0 6)))]) hx hb hml hown hT hl.1 (c_Reader_isLetter (f1 (Int32.toNatClampNeg (zI s0 6))) hc4) zY_Reader_isLetter tb_525 (zpS hK hP [] rfl) rm_ok_Reader_readToken_Reader_isLetter rfl rfl (Nat.le_of_ble_eq_true rfl) dX6_readToken_22 ⟨Nat.zero_le _, Nat.zero_le _⟩) ?_
    refine lv_if_eq (tgt := 33) hx hb dX6_readToken_25 (by decide) (fun hb_5 => ?_) (fun hb_5 => ?_)
    · have hf := zif_t hb_5 hf
      refine lv_aload_n hx hb dX6_readToken_33 rfl (lv_at hl 0 rfl) ?_
      refine zget (v := .ref (a0 4)) hx hb hown hT hK hP inX6 rfl smX6 0 rfl 4 (by decide) tb_45 rfl dX6_readToken_34 ?_
      refine lv_aload_n hx hb dX6_readToken_37 rfl (lv_at hl 0 rfl) ?_
      refine zget (v := .int (zI s0 6)) hx hb hown hT hK hP inX6 rfl smX6 0 rfl 6 (by decide) tb_47 rfl dX6_readToken_38 ?_
      obtain ⟨hi6, hf⟩ := zck_some hf
      refine va_bald hx hb hK.1 hP 2 2 rfl rfl hi6 dX6_readToken_41 ?_
      obtain ⟨z7, hc8, hf⟩ := zbd_some hf
      refine zri (zS (As := [.int (f1 (Int32.toNatClampNeg (zI s0 6)))]) hx hb hml hown hT hl.1 (c_Reader_isDigit (f1 (Int32.toNatClampNeg (zI s0 6))) hc8) zY_Reader_isDigit tb_533 (zpS hK hP [] rfl) rm_ok_Reader_readToken_Reader_isDigit rfl rfl (Nat.le_of_ble_eq_true rfl) dX6_readToken_42 ⟨Nat.zero_le _, Nat.zero_le _⟩) ?_
      refine lv_if_eq (tgt := 53) hx hb dX6_readToken_45 (by decide) (fun hb_9 => ?_) (fun hb_9 => ?_)
      · have hf := zif_t hb_9 hf
        refine lv_aload_n hx hb dX6_readToken_53 rfl (lv_at hl 0 rfl) ?_
        refine zget (v := .ref (a0 4)) hx hb hown hT hK hP inX6 rfl smX6 0 rfl 4 (by decide) tb_45 rfl dX6_readToken_54 ?_
        refine lv_aload_n hx hb dX6_readToken_57 rfl (lv_at hl 0 rfl) ?_
        refine zget (v := .int (zI s0 6)) hx hb hown hT hK hP inX6 rfl smX6 0 rfl 6 (by decide) tb_47 rfl dX6_readToken_58 ?_
        obtain ⟨hi10, hf⟩ := zck_some hf
        refine va_bald hx hb hK.1 hP 2 2 rfl rfl hi10 dX6_readToken_61 ?_
        refine lv_bipush (v := 59) hx hb dX6_readToken_62 (by decide) ?_
        refine lv_icmp_ne (tgt := 71) hx hb dX6_readToken_64 (by decide) (fun hb_11 => ?_) (fun hb_11 => ?_)
        · have hf := zif_f hb_11 hf
          refine lv_iconst (v := 0) hx hb dX6_readToken_71 (by decide) ?_
          exact k_Reader_readToken_b72 C0 s0 f1 0  hA hP hD hS hf _ (lv_sub hl [0] rfl)
        · have hf := zif_t hb_11 hf
          refine lv_iconst (v := 1) hx hb dX6_readToken_67 (by decide) ?_
          refine lv_goto (tgt := 72) hx hb dX6_readToken_68 (by decide) ?_
          exact k_Reader_readToken_b72 C0 s0 f1 1  hA hP hD hS hf _ (lv_sub hl [0] rfl)
      · have hf := zif_f hb_9 hf
        refine lv_aload_n hx hb dX6_readToken_48 rfl (lv_at hl 0 rfl) ?_
        obtain ⟨z12, hc13, hf⟩ := zbd_some hf
        refine zwi (wr := []) (ws' := (wd_Reader_readToken cy o0 a0 (zI z12.2) (zL z12.2) (zB z12.2 3) f1)) (zV (As := []) hx hb hml hown hT hl.1 (c_Reader_readNumber o0 a0 s0 f1 hc13) zY_Reader_readNumber tb_536 (zpRw hK hP hD [0, 1, 2] (by decide) rfl 0 6 rfl rfl rfl rfl) rm_ok_Reader_readToken_Reader_readNumber rfl rfl (Nat.le_of_ble_eq_true rfl) dX6_readToken_49 ⟨Nat.zero_le _, Nat.zero_le _⟩) hP hD hS hA [0, 1, 2] [] [0, 1, 2] rfl rfl (by decide) (by decide) (by decide) rfl rfl (fun H locs hP hD hS => ?_)
        cases hf
        exact zewi hx hb hr hk hK hP hD hS dX6_readToken_52
    · have hf := zif_f hb_5 hf
      refine lv_aload_n hx hb dX6_readToken_28 rfl (lv_at hl 0 rfl) ?_
      obtain ⟨z14, hc15, hf⟩ := zbd_some hf
      refine zwi (wr := []) (ws' := (wd_Reader_readToken cy o0 a0 (zI z14.2) (zL z14.2) (zB z14.2 3) f1)) (zV (As := []) hx hb hml hown hT hl.1 (c_Reader_readWord o0 a0 s0 f1 hc15) zY_Reader_readWord tb_529 (zpRw hK hP hD [0, 1, 2] (by decide) rfl 0 6 rfl rfl rfl rfl) rm_ok_Reader_readToken_Reader_readWord rfl rfl (Nat.le_of_ble_eq_true rfl) dX6_readToken_29 ⟨Nat.zero_le _, Nat.zero_le _⟩) hP hD hS hA [0, 1, 2] [] [0, 1, 2] rfl rfl (by decide) (by decide) (by decide) rfl rfl (fun H locs hP hD hS => ?_)
      cases hf
      exact zewi hx hb hr hk hK hP hD hS dX6_readToken_32
  · have hf := zif_f hb_1 hf
    refine lv_iconst (v := 0) hx hb dX6_readToken_11 (by decide) ?_
    cases hf
    exact zewi hx hb hr hk hK hP hD hS dX6_readToken_12
set_option maxHeartbeats 4000000 in
set_option maxRecDepth 100000 in
theorem c_Reader_readToken {l : Launch} {dC : Nat → ClassId} {dI : Nat → Nat → Nat} {cy : Nat → ClassId} {sz : Nat} {N : Nat} (o0 : Nat) (a0 : Nat → Nat) (s0 : zSt) (f1 : Nat → Int32) {y : Int32 × zSt} (hf : Reader_readToken N s0 f1 = some y) : Met l yX6_readToken (.code yX6_readToken cX6_readToken 2 (some .int) :: zt) rm_Reader_readToken (va_Pc [.ref o0] (zPre (dC, dI) cy (wd_Reader_readToken cy o0 a0 (zI s0) (zL s0) (zB s0 3) f1) sz)) (zQi y.1 (dC, dI) cy (wd_Reader_readToken cy o0 a0 (zI y.2) (zL y.2) (zB y.2 3) f1) (va_A (wd_Reader_readToken cy o0 a0 (zI s0) (zL s0) (zB s0 3) f1) sz)) 0 0 (va_A (wd_Reader_readToken cy o0 a0 (zI s0) (zL s0) (zB s0 3) f1) sz) :=
  zentW (Qw := fun A => (zQi y.1 (dC, dI) cy (wd_Reader_readToken cy o0 a0 (zI y.2) (zL y.2) (zB y.2 3) f1) A)) (by decide +kernel) (Nat.le_of_ble_eq_true rfl) (fun p e s m below meth c A C0 hA hP hD hS ls hl => k_Reader_readToken_b0 C0 s0 f1 hA hP hD hS hf ls hl)
def wd_Reader_read (cy : Nat → ClassId) (o0 : Nat) (a0 : Nat → Nat) (g0 : Nat → Int32) (h0 : Nat → Int64) (x0_1 : Nat → Int32) (x0_2 : Nat → Int32) (x0_3 : Nat → Int64) (f1 : Nat → Int32) : va_W := [(o0, .inr (6, fs_Reader a0 g0 h0)), (a0 1, .inl (cy 0, 205, .inl x0_1)), (a0 2, .inl (cy 0, 205, .inl x0_2)), (a0 3, .inl (cy 1, 205, .inr (.inl x0_3))), ((a0 4), .inl (cy 2, 1500, .inl f1))]
def rm_Reader_read : Room := { frames := 5, cells := 0, slots := 0, locals := 127 }
theorem rm_ok_Reader_read_Math_min : rm_Math_min.cells = 0 ∧ rm_Math_min.slots = 0 ∧ rm_Math_min.frames + 1 ≤ rm_Reader_read.frames ∧ 8 + (2 + 11) + rm_Math_min.locals ≤ rm_Reader_read.locals := by decide
theorem rm_ok_Reader_read_Reader_readToken : rm_Reader_readToken.cells = 0 ∧ rm_Reader_readToken.slots = 0 ∧ rm_Reader_readToken.frames + 1 ≤ rm_Reader_read.frames ∧ 8 + (2 + 11) + rm_Reader_readToken.locals ≤ rm_Reader_read.locals := by decide
theorem rm_ok_Reader_read_Reader_skipBlanks : rm_Reader_skipBlanks.cells = 0 ∧ rm_Reader_skipBlanks.slots = 0 ∧ rm_Reader_skipBlanks.frames + 1 ≤ rm_Reader_read.frames ∧ 8 + (1 + 11) + rm_Reader_skipBlanks.locals ≤ rm_Reader_read.locals := by decide
set_option maxHeartbeats 4000000 in
set_option maxRecDepth 100000 in
theorem k_Reader_read_b25 {p : Program} {l : Launch} {e : Env} {s : State} {m : MethodId} {args : Array Value} {below : List Frame} {meth : Method} {c : Code} {dC : Nat → ClassId} {dI : Nat → Nat → Nat} {cy : Nat → ClassId} {A : Nat → Prop} {o0 : Nat} {a0 : Nat → Nat} {N : Nat} {kh25 : zSt → Int32 → Option (zSt)} {y : zSt} (C0 : zCx p s m args meth c cX6_read 3 none RX6 (dC, dI) cy) (s0 : zSt) (f1 : Nat → Int32) (v2 : Int32) (hk25 : ∀ (s0 : zSt) (v2 : Int32) {H : Heap} {locs : List Loc} (_ : va_P (dC, dI) vwCl (wd_Reader_read cy o0 a0 (zI s0) (zL s0) (zA s0 1) (zA s0 2) (zB s0 3) f1) H) (_ : va_D A (wd_Reader_read cy o0 a0 (zI s0) (zL s0) (zA s0 1) (zA s0 2) (zB s0 3) f1)) (_ : va_S A s.heap H locs) (_ : kh25 s0 v2 = some y) (ls : Array Slot) (_ : lv_has ls 3 [(0, .ref o0), (2, .int v2)]), W p l e rm_Reader_read s m args below meth c H locs 0 0 (MQ below (zQv (dC, dI) cy (wd_Reader_read cy o0 a0 (zI y) (zL y) (zA y 1) (zA y 2) (zB y 3) f1) A) args s 0 0 A) (F0 m 25 ls [])) (hA : ∀ q, s.heap.size ≤ q → A q) {H : Heap} {locs : List Loc} (hP : va_P (dC, dI) vwCl (wd_Reader_read cy o0 a0 (zI s0) (zL s0) (zA s0 1) (zA s0 2) (zB s0 3) f1) H) (hD : va_D A (wd_Reader_read cy o0 a0 (zI s0) (zL s0) (zA s0 1) (zA s0 2) (zB s0 3) f1)) (hS : va_S A s.heap H locs) (hf : Reader_read_b25 N kh25 s0 f1 v2 = some y) (ls : Array Slot) (hl : lv_has ls 3 [(0, .ref o0), (2, .int v2)]) : W p l e rm_Reader_read s m args below meth c H locs 0 0 (MQ below (zQv (dC, dI) cy (wd_Reader_read cy o0 a0 (zI y) (zL y) (zA y 1) (zA y 2) (zB y 3) f1) A) args s 0 0 A) (F0 m 25 ls []) := by
  obtain ⟨hx, hb, hr, hml, hown, hT, hk, hK⟩ := id C0
  refine lv_iload_n hx hb dX6_read_25 rfl (lv_at hl 1 rfl) ?_
  refine lv_if_eq (tgt := 89) hx hb dX6_read_26 (by decide) (fun hb_1 => ?_) (fun hb_1 => ?_)
  · have hf := zif_t hb_1 hf
    cases hf
    exact zewv hx hb hr hk hK hP hD hS dX6_read_89
  · have hf := zif_f hb_1 hf
    refine lv_iload_n hx hb dX6_read_29 rfl (lv_at hl 1 rfl) ?_
    refine lv_iconst (v := 1) hx hb dX6_read_30 (by decide) ?_
    refine lv_icmp_eq (tgt := 89) hx hb dX6_read_31 (by decide) (fun hb_2 => ?_) (fun hb_2 => ?_)
    · have hf := zif_t hb_2 hf
      cases hf
      exact zewv hx hb hr hk hK hP hD hS dX6_read_89
    · have hf := zif_f hb_2 hf
      refine lv_aload_n hx hb dX6_read_34 rfl (lv_at hl 0 rfl) ?_
      refine zget (v := .int (zI s0 0)) hx hb hown hT hK hP inX6 rfl smX6 0 rfl 0 (by decide) tb_37 rfl dX6_read_35 ?_
      refine lv_sipush (v := 205) hx hb dX6_read_38 (by decide) ?_
      refine lv_icmp_ge (tgt := 89) hx hb dX6_read_41 (by decide) (fun hb_3 => ?_) (fun hb_3 => ?_)
      · have hf := zif_t hb_3 hf
        cases hf
        exact zewv hx hb hr hk hK hP hD hS dX6_read_89
      · have hf := zif_f hb_3 hf
        refine lv_aload_n hx hb dX6_read_44 rfl (lv_at hl 0 rfl) ?_
        obtain ⟨z4, hc5, hf⟩ := zbd_some hf
        refine zwv (wr := [(a0 1, .inl (cy 0, 205, .inl (zA s0 1))), (a0 2, .inl (cy 0, 205, .inl (zA s0 2))), (a0 3, .inl (cy 1, 205, .inr (.inl (zB s0 3))))]) (ws' := (wd_Reader_read cy o0 a0 (zI z4) (zL z4) (zA s0 1) (zA s0 2) (zB s0 3) f1)) (zV (As := []) hx hb hml hown hT hl.1 (c_Reader_skipBlanks o0 a0 s0 f1 hc5) zY_Reader_skipBlanks tb_517 (zpRw hK hP hD [0, 4] (by decide) rfl 0 6 rfl rfl rfl rfl) rm_ok_Reader_read_Reader_skipBlanks rfl rfl (Nat.le_of_ble_eq_true rfl) dX6_read_45 ⟨Nat.zero_le _, Nat.zero_le _⟩) hP hD hS hA [0, 4] [1, 2, 3] [3, 0, 1, 2, 4] rfl rfl (by decide) (by decide) (by decide) rfl rfl (fun H locs hP hD hS => ?_)
        refine lv_aload_n hx hb dX6_read_48 rfl (lv_at hl 0 rfl) ?_
        refine zget (v := .ref (a0 2)) hx hb hown hT hK hP inX6 rfl smX6 0 rfl 2 (by decide) tb_41 rfl dX6_read_49 ?_
        refine lv_aload_n hx hb dX6_read_52 rfl (lv_at hl 0 rfl) ?_
        refine zget (v := .int (zI z4 0)) hx hb hown hT hK hP inX6 rfl smX6 0 rfl 0 (by decide) tb_37 rfl dX6_read_53 ?_
        refine lv_aload_n hx hb dX6_read_56 rfl (lv_at hl 0 rfl) ?_
        refine zget (v := .int (zI z4 6)) hx hb hown hT hK hP inX6 rfl smX6 0 rfl 6 (by decide) tb_47 rfl dX6_read_57 ?_
        obtain ⟨hi6, hf⟩ := zck_some hf
        refine zast (ws' := (wd_Reader_read cy o0 a0 (zI z4) (zL z4) (zA s0 1) (upd (zA s0 2) (Int32.toNatClampNeg (zI z4 0)) (zI z4 6)) (zB s0 3) f1)) hx hb hK hP hD hS 2 0 rfl rfl hi6 rfl dX6_read_60 (fun H locs hP hD hS => ?_)
        refine lv_aload_n hx hb dX6_read_61 rfl (lv_at hl 0 rfl) ?_
        obtain ⟨z7, hc8, hf⟩ := zbd_some hf
        refine zwi (wr := [(a0 1, .inl (cy 0, 205, .inl (zA s0 1))), (a0 2, .inl (cy 0, 205, .inl (upd (zA s0 2) (Int32.toNatClampNeg (zI z4 0)) (zI z4 6))))]) (ws' := (wd_Reader_read cy o0 a0 (zI z7.2) (zL z7.2) (zA s0 1) (upd (zA s0 2) (Int32.toNatClampNeg (zI z4 0)) (zI z4 6)) (zB z7.2 3) f1)) (zV (As := []) hx hb hml hown hT hl.1 (c_Reader_readToken o0 a0 (zsA (zmg [1,2,3] z4 s0) 2 (upd (zA s0 2) (Int32.toNatClampNeg (zI z4 0)) (zI z4 6))) f1 hc8) zY_Reader_readToken tb_521 (zpRw hK hP hD [0, 3, 4] (by decide) rfl 0 6 rfl rfl rfl rfl) rm_ok_Reader_read_Reader_readToken rfl rfl (Nat.le_of_ble_eq_true rfl) dX6_read_62 ⟨Nat.zero_le _, Nat.zero_le _⟩) hP hD hS hA [0, 3, 4] [1, 2] [2, 0, 1, 3, 4] rfl rfl (by decide) (by decide) (by decide) rfl rfl (fun H locs hP hD hS => ?_)
        refine lv_istore_n (lv' := [(2, .int z7.1), (0, .ref o0)]) hx hb dX6_read_65 rfl hl (by decide) rfl (fun ls hl => ?_)
        refine lv_aload_n hx hb dX6_read_66 rfl (lv_at hl 1 rfl) ?_
        refine zget (v := .ref (a0 1)) hx hb hown hT hK hP inX6 rfl smX6 0 rfl 1 (by decide) tb_39 rfl dX6_read_67 ?_
        refine lv_aload_n hx hb dX6_read_70 rfl (lv_at hl 1 rfl) ?_
        refine zget (v := .int (zI z7.2 0)) hx hb hown hT hK hP inX6 rfl smX6 0 rfl 0 (by decide) tb_37 rfl dX6_read_71 ?_
        refine lv_iload_n hx hb dX6_read_74 rfl (lv_at hl 0 rfl) ?_
        obtain ⟨hi9, hf⟩ := zck_some hf
        refine zast (ws' := (wd_Reader_read cy o0 a0 (zI z7.2) (zL z7.2) (upd (zA s0 1) (Int32.toNatClampNeg (zI z7.2 0)) z7.1) (upd (zA s0 2) (Int32.toNatClampNeg (zI z4 0)) (zI z4 6)) (zB z7.2 3) f1)) hx hb hK hP hD hS 1 0 rfl rfl hi9 rfl dX6_read_75 (fun H locs hP hD hS => ?_)
        refine lv_aload_n hx hb dX6_read_76 rfl (lv_at hl 1 rfl) ?_
        refine lv_dup hx hb dX6_read_77 rfl ?_
        refine zget (v := .int (zI z7.2 0)) hx hb hown hT hK hP inX6 rfl smX6 0 rfl 0 (by decide) tb_37 rfl dX6_read_78 ?_
        refine lv_iconst (v := 1) hx hb dX6_read_81 (by decide) ?_
        refine lv_iadd hx hb dX6_read_82 ?_
        refine zput (fs' := fs_Reader a0 (upd (zI z7.2) 0 ((zI z7.2 0) + 1)) (zL z7.2)) (ws' := (wd_Reader_read cy o0 a0 (upd (zI z7.2) 0 ((zI z7.2 0) + 1)) (zL z7.2) (upd (zA s0 1) (Int32.toNatClampNeg (zI z7.2 0)) z7.1) (upd (zA s0 2) (Int32.toNatClampNeg (zI z4 0)) (zI z4 6)) (zB z7.2 3) f1)) hx hb hown hT hK hP hD hS inX6 rfl smX6 tyX6_ok nmX6 0 rfl 0 (by decide) tb_37 rfl rfl rfl (Nat.le_of_ble_eq_true rfl) rfl rfl dX6_read_83 (fun H locs hP hD hS => ?_)
        refine lv_goto (tgt := 25) hx hb dX6_read_86 (by decide) ?_
        exact hk25 (zpI (zsA (zmg [1,2] z7.2 (zsA (zmg [1,2,3] z4 s0) 2 (upd (zA s0 2) (Int32.toNatClampNeg (zI z4 0)) (zI z4 6)))) 1 (upd (zA s0 1) (Int32.toNatClampNeg (zI z7.2 0)) z7.1)) 0 ((zI z7.2 0) + 1)) z7.1 hP hD hS hf _ (lv_sub hl [1, 0] rfl)
set_option maxHeartbeats 4000000 in
set_option maxRecDepth 100000 in
theorem k_Reader_read_h25 {p : Program} {l : Launch} {e : Env} {s : State} {m : MethodId} {args : Array Value} {below : List Frame} {meth : Method} {c : Code} {dC : Nat → ClassId} {dI : Nat → Nat → Nat} {cy : Nat → ClassId} {A : Nat → Prop} {o0 : Nat} {a0 : Nat → Nat} {N : Nat} {y : zSt} (C0 : zCx p s m args meth c cX6_read 3 none RX6 (dC, dI) cy) (f1 : (Nat → Int32)) (hA : ∀ q, s.heap.size ≤ q → A q) : ∀ (n : Nat) (s0 : zSt) (v2 : Int32) {H : Heap} {locs : List Loc} (hP : va_P (dC, dI) vwCl (wd_Reader_read cy o0 a0 (zI s0) (zL s0) (zA s0 1) (zA s0 2) (zB s0 3) f1) H) (hD : va_D A (wd_Reader_read cy o0 a0 (zI s0) (zL s0) (zA s0 1) (zA s0 2) (zB s0 3) f1)) (hS : va_S A s.heap H locs) (hf : Reader_read_h25 N f1 n s0 v2 = some y) (ls : Array Slot) (hl : lv_has ls 3 [(0, .ref o0), (2, .int v2)]), W p l e rm_Reader_read s m args below meth c H locs 0 0 (MQ below (zQv (dC, dI) cy (wd_Reader_read cy o0 a0 (zI y) (zL y) (zA y 1) (zA y 2) (zB y 3) f1) A) args s 0 0 A) (F0 m 25 ls []) := by
  intro n
  induction n with
  | zero => intro s0 v2 H locs hP hD hS hf; cases hf
  | succ n ih =>
    intro s0 v2 H locs hP hD hS hf ls hl
    have hf : Reader_read_b25 N (Reader_read_h25 N f1 n) s0 f1 v2 = some y := hf
    exact k_Reader_read_b25 C0 s0 f1 v2 (fun s0 v2 _ _ hP hD hS hf ls hl => ih s0 v2 hP hD hS hf ls hl) hA hP hD hS hf ls hl
set_option maxHeartbeats 4000000 in
set_option maxRecDepth 100000 in
theorem k_Reader_read_b0 {p : Program} {l : Launch} {e : Env} {s : State} {m : MethodId} {args : Array Value} {below : List Frame} {meth : Method} {c : Code} {dC : Nat → ClassId} {dI : Nat → Nat → Nat} {cy : Nat → ClassId} {A : Nat → Prop} {o0 : Nat} {a0 : Nat → Nat} {N : Nat} {y : zSt} (C0 : zCx p s m args meth c cX6_read 3 none RX6 (dC, dI) cy) (s0 : zSt) (f1 : Nat → Int32) (v1 : Int32) (hA : ∀ q, s.heap.size ≤ q → A q) {H : Heap} {locs : List Loc} (hP : va_P (dC, dI) vwCl (wd_Reader_read cy o0 a0 (zI s0) (zL s0) (zA s0 1) (zA s0 2) (zB s0 3) f1) H) (hD : va_D A (wd_Reader_read cy o0 a0 (zI s0) (zL s0) (zA s0 1) (zA s0 2) (zB s0 3) f1)) (hS : va_S A s.heap H locs) (hf : Reader_read_b0 N s0 f1 v1 = some y) (ls : Array Slot) (hl : lv_has ls 3 [(0, .ref o0), (1, .int v1)]) : W p l e rm_Reader_read s m args below meth c H locs 0 0 (MQ below (zQv (dC, dI) cy (wd_Reader_read cy o0 a0 (zI y) (zL y) (zA y 1) (zA y 2) (zB y 3) f1) A) args s 0 0 A) (F0 m 0 ls []) := by
  obtain ⟨hx, hb, hr, hml, hown, hT, hk, hK⟩ := id C0
  refine lv_aload_n hx hb dX6_read_0 rfl (lv_at hl 0 rfl) ?_
  refine lv_iload_n hx hb dX6_read_1 rfl (lv_at hl 1 rfl) ?_
  refine lv_aload_n hx hb dX6_read_2 rfl (lv_at hl 0 rfl) ?_
  refine zget (v := .ref (a0 4)) hx hb hown hT hK hP inX6 rfl smX6 0 rfl 4 (by decide) tb_45 rfl dX6_read_3 ?_
  refine va_alen (v := 1500) hx hb hK.1 hP 4 2 rfl rfl rfl dX6_read_6 ?_
  obtain ⟨z1, hc2, hf⟩ := zbd_some hf
  refine zri (zS (As := [.int v1, .int 1500]) hx hb hml hown hT hl.1 (c_Math_min v1 1500 hc2) zY_Math_min tb_514 (zpS hK hP [] rfl) rm_ok_Reader_read_Math_min rfl rfl (Nat.le_of_ble_eq_true rfl) dX6_read_7 ⟨Nat.zero_le _, Nat.zero_le _⟩) ?_
  refine zput (fs' := fs_Reader a0 (upd (zI s0) 5 z1) (zL s0)) (ws' := (wd_Reader_read cy o0 a0 (upd (zI s0) 5 z1) (zL s0) (zA s0 1) (zA s0 2) (zB s0 3) f1)) hx hb hown hT hK hP hD hS inX6 rfl smX6 tyX6_ok nmX6 0 rfl 5 (by decide) tb_46 rfl rfl rfl (Nat.le_of_ble_eq_true rfl) rfl rfl dX6_read_10 (fun H locs hP hD hS => ?_)
  refine lv_aload_n hx hb dX6_read_13 rfl (lv_at hl 0 rfl) ?_
  refine lv_iconst (v := 0) hx hb dX6_read_14 (by decide) ?_
  refine zput (fs' := fs_Reader a0 (upd (upd (zI s0) 5 z1) 6 0) (zL s0)) (ws' := (wd_Reader_read cy o0 a0 (upd (upd (zI s0) 5 z1) 6 0) (zL s0) (zA s0 1) (zA s0 2) (zB s0 3) f1)) hx hb hown hT hK hP hD hS inX6 rfl smX6 tyX6_ok nmX6 0 rfl 6 (by decide) tb_47 rfl rfl rfl (Nat.le_of_ble_eq_true rfl) rfl rfl dX6_read_15 (fun H locs hP hD hS => ?_)
  refine lv_aload_n hx hb dX6_read_18 rfl (lv_at hl 0 rfl) ?_
  refine lv_iconst (v := 0) hx hb dX6_read_19 (by decide) ?_
  refine zput (fs' := fs_Reader a0 (upd (upd (upd (zI s0) 5 z1) 6 0) 0 0) (zL s0)) (ws' := (wd_Reader_read cy o0 a0 (upd (upd (upd (zI s0) 5 z1) 6 0) 0 0) (zL s0) (zA s0 1) (zA s0 2) (zB s0 3) f1)) hx hb hown hT hK hP hD hS inX6 rfl smX6 tyX6_ok nmX6 0 rfl 0 (by decide) tb_37 rfl rfl rfl (Nat.le_of_ble_eq_true rfl) rfl rfl dX6_read_20 (fun H locs hP hD hS => ?_)
  refine lv_iconst (v := 2) hx hb dX6_read_23 (by decide) ?_
  refine lv_istore_n (lv' := [(2, .int 2), (0, .ref o0), (1, .int v1)]) hx hb dX6_read_24 rfl hl (by decide) rfl (fun ls hl => ?_)
  exact k_Reader_read_h25 C0 f1  hA N (zpI (zpI (zpI s0 5 z1) 6 0) 0 0) 2 hP hD hS hf _ (lv_sub hl [1, 0] rfl)
set_option maxHeartbeats 4000000 in
set_option maxRecDepth 100000 in
theorem c_Reader_read {l : Launch} {dC : Nat → ClassId} {dI : Nat → Nat → Nat} {cy : Nat → ClassId} {sz : Nat} {N : Nat} (o0 : Nat) (a0 : Nat → Nat) (s0 : zSt) (f1 : Nat → Int32) (v1 : Int32) {y : zSt} (hf : Reader_read N s0 f1 v1 = some y) : Met l yX6_read (.code yX6_read cX6_read 3 none :: zt) rm_Reader_read (va_Pc [.ref o0, .int v1] (zPre (dC, dI) cy (wd_Reader_read cy o0 a0 (zI s0) (zL s0) (zA s0 1) (zA s0 2) (zB s0 3) f1) sz)) (zQv (dC, dI) cy (wd_Reader_read cy o0 a0 (zI y) (zL y) (zA y 1) (zA y 2) (zB y 3) f1) (va_A (wd_Reader_read cy o0 a0 (zI s0) (zL s0) (zA s0 1) (zA s0 2) (zB s0 3) f1) sz)) 0 0 (va_A (wd_Reader_read cy o0 a0 (zI s0) (zL s0) (zA s0 1) (zA s0 2) (zB s0 3) f1) sz) :=
  zentW (Qw := fun A => (zQv (dC, dI) cy (wd_Reader_read cy o0 a0 (zI y) (zL y) (zA y 1) (zA y 2) (zB y 3) f1) A)) (by decide +kernel) (Nat.le_of_ble_eq_true rfl) (fun p e s m below meth c A C0 hA hP hD hS ls hl => k_Reader_read_b0 C0 s0 f1 v1 hA hP hD hS hf ls hl)
def wd_Sets_begin (cy : Nat → ClassId) (o0 : Nat) (a0 : Nat → Nat) (g0 : Nat → Int32) (h0 : Nat → Int64) (x0_8 : Nat → Int32) (x0_9 : Nat → Int32) (x0_11 : Nat → Int32) (x0_13 : Nat → Int32) (o1 : Nat) (a1 : Nat → Nat) (g1 : Nat → Int32) (h1 : Nat → Int64) (x1_5 : Nat → Int32) (o2 : Nat) (a2 : Nat → Nat) (g2 : Nat → Int32) (h2 : Nat → Int64) : va_W := [(o0, .inr (7, fs_Sets a0 g0 h0)), (a0 8, .inl (cy 0, 11, .inl x0_8)), (a0 9, .inl (cy 0, 11, .inl x0_9)), (a0 11, .inl (cy 0, 48, .inl x0_11)), (a0 13, .inl (cy 0, 64, .inl x0_13)), (o1, .inr (9, fs_Valley a1 g1 h1)), (a1 5, .inl (cy 0, 11, .inl x1_5)), (o2, .inr (0, fs_Bounds a2 g2 h2))]
def rm_Sets_begin : Room := { frames := 2, cells := 0, slots := 0, locals := 63 }
theorem rm_ok_Sets_begin_Arrays_fill : rm_Arrays_fill.cells = 0 ∧ rm_Arrays_fill.slots = 0 ∧ rm_Arrays_fill.frames + 1 ≤ rm_Sets_begin.frames ∧ 8 + (4 + 11) + rm_Arrays_fill.locals ≤ rm_Sets_begin.locals := by decide
set_option maxHeartbeats 4000000 in
set_option maxRecDepth 100000 in
theorem k_Sets_begin_b67 {p : Program} {l : Launch} {e : Env} {s : State} {m : MethodId} {args : Array Value} {below : List Frame} {meth : Method} {c : Code} {dC : Nat → ClassId} {dI : Nat → Nat → Nat} {cy : Nat → ClassId} {A : Nat → Prop} {o0 : Nat} {a0 : Nat → Nat} {o1 : Nat} {a1 : Nat → Nat} {o2 : Nat} {a2 : Nat → Nat} {N : Nat} {kh7 : zSt → Int32 → Option (zSt)} {y : zSt} (C0 : zCx p s m args meth c cX7_begin 4 none RX7 (dC, dI) cy) (s0 : zSt) (s1 : zSt) (s2 : zSt) (v3 : Int32) (hk7 : ∀ (s0 : zSt) (v3 : Int32) {H : Heap} {locs : List Loc} (_ : va_P (dC, dI) vwCl (wd_Sets_begin cy o0 a0 (zI s0) (zL s0) (zA s0 8) (zA s0 9) (zA s0 11) (zA s0 13) o1 a1 (zI s1) (zL s1) (zA s1 5) o2 a2 (zI s2) (zL s2)) H) (_ : va_D A (wd_Sets_begin cy o0 a0 (zI s0) (zL s0) (zA s0 8) (zA s0 9) (zA s0 11) (zA s0 13) o1 a1 (zI s1) (zL s1) (zA s1 5) o2 a2 (zI s2) (zL s2))) (_ : va_S A s.heap H locs) (_ : kh7 s0 v3 = some y) (ls : Array Slot) (_ : lv_has ls 4 [(0, .ref o0), (1, .ref o1), (2, .ref o2), (3, .int v3)]), W p l e rm_Sets_begin s m args below meth c H locs 0 0 (MQ below (zQv (dC, dI) cy (wd_Sets_begin cy o0 a0 (zI y) (zL y) (zA y 8) (zA y 9) (zA y 11) (zA y 13) o1 a1 (zI s1) (zL s1) (zA s1 5) o2 a2 (zI s2) (zL s2)) A) args s 0 0 A) (F0 m 7 ls [])) (hA : ∀ q, s.heap.size ≤ q → A q) {H : Heap} {locs : List Loc} (hP : va_P (dC, dI) vwCl (wd_Sets_begin cy o0 a0 (zI s0) (zL s0) (zA s0 8) (zA s0 9) (zA s0 11) (zA s0 13) o1 a1 (zI s1) (zL s1) (zA s1 5) o2 a2 (zI s2) (zL s2)) H) (hD : va_D A (wd_Sets_begin cy o0 a0 (zI s0) (zL s0) (zA s0 8) (zA s0 9) (zA s0 11) (zA s0 13) o1 a1 (zI s1) (zL s1) (zA s1 5) o2 a2 (zI s2) (zL s2))) (hS : va_S A s.heap H locs) (hf : Sets_begin_b67 N kh7 s0 s1 s2 v3 = some y) (ls : Array Slot) (hl : lv_has ls 4 [(0, .ref o0), (1, .ref o1), (2, .ref o2), (3, .int v3)]) : W p l e rm_Sets_begin s m args below meth c H locs 0 0 (MQ below (zQv (dC, dI) cy (wd_Sets_begin cy o0 a0 (zI y) (zL y) (zA y 8) (zA y 9) (zA y 11) (zA y 13) o1 a1 (zI s1) (zL s1) (zA s1 5) o2 a2 (zI s2) (zL s2)) A) args s 0 0 A) (F0 m 67 ls []) := by
  obtain ⟨hx, hb, hr, hml, hown, hT, hk, hK⟩ := id C0
  refine lv_iinc (v := v3 + 1) (lv' := [(3, .int (v3 + 1)), (0, .ref o0), (1, .ref o1), (2, .ref o2)]) hx hb dX7_begin_67 hl (k := 3) rfl rfl (by decide) rfl (fun ls hl => ?_)
  refine lv_goto (tgt := 7) hx hb dX7_begin_70 (by decide) ?_
  exact hk7 s0 (v3 + 1) hP hD hS hf _ (lv_sub hl [1, 2, 3, 0] rfl)
set_option maxHeartbeats 4000000 in
set_option maxRecDepth 100000 in
theorem k_Sets_begin_b7 {p : Program} {l : Launch} {e : Env} {s : State} {m : MethodId} {args : Array Value} {below : List Frame} {meth : Method} {c : Code} {dC : Nat → ClassId} {dI : Nat → Nat → Nat} {cy : Nat → ClassId} {A : Nat → Prop} {o0 : Nat} {a0 : Nat → Nat} {o1 : Nat} {a1 : Nat → Nat} {o2 : Nat} {a2 : Nat → Nat} {N : Nat} {kh7 : zSt → Int32 → Option (zSt)} {y : zSt} (C0 : zCx p s m args meth c cX7_begin 4 none RX7 (dC, dI) cy) (s0 : zSt) (s1 : zSt) (s2 : zSt) (v3 : Int32) (hk7 : ∀ (s0 : zSt) (v3 : Int32) {H : Heap} {locs : List Loc} (_ : va_P (dC, dI) vwCl (wd_Sets_begin cy o0 a0 (zI s0) (zL s0) (zA s0 8) (zA s0 9) (zA s0 11) (zA s0 13) o1 a1 (zI s1) (zL s1) (zA s1 5) o2 a2 (zI s2) (zL s2)) H) (_ : va_D A (wd_Sets_begin cy o0 a0 (zI s0) (zL s0) (zA s0 8) (zA s0 9) (zA s0 11) (zA s0 13) o1 a1 (zI s1) (zL s1) (zA s1 5) o2 a2 (zI s2) (zL s2))) (_ : va_S A s.heap H locs) (_ : kh7 s0 v3 = some y) (ls : Array Slot) (_ : lv_has ls 4 [(0, .ref o0), (1, .ref o1), (2, .ref o2), (3, .int v3)]), W p l e rm_Sets_begin s m args below meth c H locs 0 0 (MQ below (zQv (dC, dI) cy (wd_Sets_begin cy o0 a0 (zI y) (zL y) (zA y 8) (zA y 9) (zA y 11) (zA y 13) o1 a1 (zI s1) (zL s1) (zA s1 5) o2 a2 (zI s2) (zL s2)) A) args s 0 0 A) (F0 m 7 ls [])) (hA : ∀ q, s.heap.size ≤ q → A q) {H : Heap} {locs : List Loc} (hP : va_P (dC, dI) vwCl (wd_Sets_begin cy o0 a0 (zI s0) (zL s0) (zA s0 8) (zA s0 9) (zA s0 11) (zA s0 13) o1 a1 (zI s1) (zL s1) (zA s1 5) o2 a2 (zI s2) (zL s2)) H) (hD : va_D A (wd_Sets_begin cy o0 a0 (zI s0) (zL s0) (zA s0 8) (zA s0 9) (zA s0 11) (zA s0 13) o1 a1 (zI s1) (zL s1) (zA s1 5) o2 a2 (zI s2) (zL s2))) (hS : va_S A s.heap H locs) (hf : Sets_begin_b7 N kh7 s0 s1 s2 v3 = some y) (ls : Array Slot) (hl : lv_has ls 4 [(0, .ref o0), (1, .ref o1), (2, .ref o2), (3, .int v3)]) : W p l e rm_Sets_begin s m args below meth c H locs 0 0 (MQ below (zQv (dC, dI) cy (wd_Sets_begin cy o0 a0 (zI y) (zL y) (zA y 8) (zA y 9) (zA y 11) (zA y 13) o1 a1 (zI s1) (zL s1) (zA s1 5) o2 a2 (zI s2) (zL s2)) A) args s 0 0 A) (F0 m 7 ls []) := by
  obtain ⟨hx, hb, hr, hml, hown, hT, hk, hK⟩ := id C0
  refine lv_iload_n hx hb dX7_begin_7 rfl (lv_at hl 3 rfl) ?_
  refine lv_aload_n hx hb dX7_begin_8 rfl (lv_at hl 1 rfl) ?_
  refine zget (v := .int (zI s1 3)) hx hb hown hT hK hP inX9 rfl smX9 5 rfl 3 (by decide) tb_104 rfl dX7_begin_9 ?_
  refine lv_icmp_ge (tgt := 73) hx hb dX7_begin_12 (by decide) (fun hb_1 => ?_) (fun hb_1 => ?_)
  · have hf := zif_t hb_1 hf
    refine lv_aload_n hx hb dX7_begin_73 rfl (lv_at hl 0 rfl) ?_
    refine lv_iconst (v := 0) hx hb dX7_begin_74 (by decide) ?_
    refine zput (fs' := fs_Sets a0 (upd (zI s0) 0 0) (zL s0)) (ws' := (wd_Sets_begin cy o0 a0 (upd (zI s0) 0 0) (zL s0) (zA s0 8) (zA s0 9) (zA s0 11) (zA s0 13) o1 a1 (zI s1) (zL s1) (zA s1 5) o2 a2 (zI s2) (zL s2))) hx hb hown hT hK hP hD hS inX7 rfl smX7 tyX7_ok nmX7 0 rfl 0 (by decide) tb_280 rfl rfl rfl (Nat.le_of_ble_eq_true rfl) rfl rfl dX7_begin_75 (fun H locs hP hD hS => ?_)
    refine lv_aload_n hx hb dX7_begin_78 rfl (lv_at hl 0 rfl) ?_
    refine lv_iconst (v := (-1)) hx hb dX7_begin_79 (by decide) ?_
    refine zput (fs' := fs_Sets a0 (upd (upd (zI s0) 0 0) 1 (-1)) (zL s0)) (ws' := (wd_Sets_begin cy o0 a0 (upd (upd (zI s0) 0 0) 1 (-1)) (zL s0) (zA s0 8) (zA s0 9) (zA s0 11) (zA s0 13) o1 a1 (zI s1) (zL s1) (zA s1 5) o2 a2 (zI s2) (zL s2))) hx hb hown hT hK hP hD hS inX7 rfl smX7 tyX7_ok nmX7 0 rfl 1 (by decide) tb_282 rfl rfl rfl (Nat.le_of_ble_eq_true rfl) rfl rfl dX7_begin_80 (fun H locs hP hD hS => ?_)
    refine lv_aload_n hx hb dX7_begin_83 rfl (lv_at hl 0 rfl) ?_
    refine lv_iconst (v := (-1)) hx hb dX7_begin_84 (by decide) ?_
    refine zput (fs' := fs_Sets a0 (upd (upd (upd (zI s0) 0 0) 1 (-1)) 2 (-1)) (zL s0)) (ws' := (wd_Sets_begin cy o0 a0 (upd (upd (upd (zI s0) 0 0) 1 (-1)) 2 (-1)) (zL s0) (zA s0 8) (zA s0 9) (zA s0 11) (zA s0 13) o1 a1 (zI s1) (zL s1) (zA s1 5) o2 a2 (zI s2) (zL s2))) hx hb hown hT hK hP hD hS inX7 rfl smX7 tyX7_ok nmX7 0 rfl 2 (by decide) tb_284 rfl rfl rfl (Nat.le_of_ble_eq_true rfl) rfl rfl dX7_begin_85 (fun H locs hP hD hS => ?_)
    refine lv_aload_n hx hb dX7_begin_88 rfl (lv_at hl 0 rfl) ?_
    refine lv_iconst (v := 0) hx hb dX7_begin_89 (by decide) ?_
    refine zput (fs' := fs_Sets a0 (upd (upd (upd (upd (zI s0) 0 0) 1 (-1)) 2 (-1)) 3 0) (zL s0)) (ws' := (wd_Sets_begin cy o0 a0 (upd (upd (upd (upd (zI s0) 0 0) 1 (-1)) 2 (-1)) 3 0) (zL s0) (zA s0 8) (zA s0 9) (zA s0 11) (zA s0 13) o1 a1 (zI s1) (zL s1) (zA s1 5) o2 a2 (zI s2) (zL s2))) hx hb hown hT hK hP hD hS inX7 rfl smX7 tyX7_ok nmX7 0 rfl 3 (by decide) tb_286 rfl rfl rfl (Nat.le_of_ble_eq_true rfl) rfl rfl dX7_begin_90 (fun H locs hP hD hS => ?_)
    refine lv_aload_n hx hb dX7_begin_93 rfl (lv_at hl 0 rfl) ?_
    refine lv_iconst (v := (-1)) hx hb dX7_begin_94 (by decide) ?_
    refine zput (fs' := fs_Sets a0 (upd (upd (upd (upd (upd (zI s0) 0 0) 1 (-1)) 2 (-1)) 3 0) 4 (-1)) (zL s0)) (ws' := (wd_Sets_begin cy o0 a0 (upd (upd (upd (upd (upd (zI s0) 0 0) 1 (-1)) 2 (-1)) 3 0) 4 (-1)) (zL s0) (zA s0 8) (zA s0 9) (zA s0 11) (zA s0 13) o1 a1 (zI s1) (zL s1) (zA s1 5) o2 a2 (zI s2) (zL s2))) hx hb hown hT hK hP hD hS inX7 rfl smX7 tyX7_ok nmX7 0 rfl 4 (by decide) tb_288 rfl rfl rfl (Nat.le_of_ble_eq_true rfl) rfl rfl dX7_begin_95 (fun H locs hP hD hS => ?_)
    refine lv_aload_n hx hb dX7_begin_98 rfl (lv_at hl 0 rfl) ?_
    refine lv_iconst (v := (-1)) hx hb dX7_begin_99 (by decide) ?_
    refine zput (fs' := fs_Sets a0 (upd (upd (upd (upd (upd (upd (zI s0) 0 0) 1 (-1)) 2 (-1)) 3 0) 4 (-1)) 5 (-1)) (zL s0)) (ws' := (wd_Sets_begin cy o0 a0 (upd (upd (upd (upd (upd (upd (zI s0) 0 0) 1 (-1)) 2 (-1)) 3 0) 4 (-1)) 5 (-1)) (zL s0) (zA s0 8) (zA s0 9) (zA s0 11) (zA s0 13) o1 a1 (zI s1) (zL s1) (zA s1 5) o2 a2 (zI s2) (zL s2))) hx hb hown hT hK hP hD hS inX7 rfl smX7 tyX7_ok nmX7 0 rfl 5 (by decide) tb_290 rfl rfl rfl (Nat.le_of_ble_eq_true rfl) rfl rfl dX7_begin_100 (fun H locs hP hD hS => ?_)
    refine lv_aload_n hx hb dX7_begin_103 rfl (lv_at hl 0 rfl) ?_
    refine zget (v := .ref (a0 11)) hx hb hown hT hK hP inX7 rfl smX7 0 rfl 11 (by decide) tb_297 rfl dX7_begin_104 ?_
    refine lv_iconst (v := 0) hx hb dX7_begin_107 (by decide) ?_
    obtain ⟨z2, hc3, hf⟩ := zbd_some hf
    refine zwv (wr := [(o0, .inr (7, fs_Sets a0 (upd (upd (upd (upd (upd (upd (zI s0) 0 0) 1 (-1)) 2 (-1)) 3 0) 4 (-1)) 5 (-1)) (zL s0))), (a0 8, .inl (cy 0, 11, .inl (zA s0 8))), (a0 9, .inl (cy 0, 11, .inl (zA s0 9))), (a0 13, .inl (cy 0, 64, .inl (zA s0 13))), (o1, .inr (9, fs_Valley a1 (zI s1) (zL s1))), (a1 5, .inl (cy 0, 11, .inl (zA s1 5))), (o2, .inr (0, fs_Bounds a2 (zI s2) (zL s2)))]) (ws' := (wd_Sets_begin cy o0 a0 (upd (upd (upd (upd (upd (upd (zI s0) 0 0) 1 (-1)) 2 (-1)) 3 0) 4 (-1)) 5 (-1)) (zL s0) (zA s0 8) (zA s0 9) z2 (zA s0 13) o1 a1 (zI s1) (zL s1) (zA s1 5) o2 a2 (zI s2) (zL s2))) (zS (As := [.ref (a0 11), .int 0]) hx hb hml hown hT hl.1 (c_Arrays_fill (a0 11) 48 (zA s0 11) 0 hc3) zY_Arrays_fill tb_793 (zpSw hK hP hD [3] (by decide) rfl rfl) rm_ok_Sets_begin_Arrays_fill rfl rfl (Nat.le_of_ble_eq_true rfl) dX7_begin_108 ⟨Nat.zero_le _, Nat.zero_le _⟩) hP hD hS hA [3] [0, 1, 2, 4, 5, 6, 7] [0, 1, 2, 7, 3, 4, 5, 6] rfl rfl (by decide) (by decide) (by decide) rfl rfl (fun H locs hP hD hS => ?_)
    refine lv_aload_n hx hb dX7_begin_111 rfl (lv_at hl 0 rfl) ?_
    refine zget (v := .ref (a0 13)) hx hb hown hT hK hP inX7 rfl smX7 0 rfl 13 (by decide) tb_299 rfl dX7_begin_112 ?_
    refine lv_iconst (v := 0) hx hb dX7_begin_115 (by decide) ?_
    obtain ⟨z4, hc5, hf⟩ := zbd_some hf
    refine zwv (wr := [(o0, .inr (7, fs_Sets a0 (upd (upd (upd (upd (upd (upd (zI s0) 0 0) 1 (-1)) 2 (-1)) 3 0) 4 (-1)) 5 (-1)) (zL s0))), (a0 8, .inl (cy 0, 11, .inl (zA s0 8))), (a0 9, .inl (cy 0, 11, .inl (zA s0 9))), (a0 11, .inl (cy 0, 48, .inl z2)), (o1, .inr (9, fs_Valley a1 (zI s1) (zL s1))), (a1 5, .inl (cy 0, 11, .inl (zA s1 5))), (o2, .inr (0, fs_Bounds a2 (zI s2) (zL s2)))]) (ws' := (wd_Sets_begin cy o0 a0 (upd (upd (upd (upd (upd (upd (zI s0) 0 0) 1 (-1)) 2 (-1)) 3 0) 4 (-1)) 5 (-1)) (zL s0) (zA s0 8) (zA s0 9) z2 z4 o1 a1 (zI s1) (zL s1) (zA s1 5) o2 a2 (zI s2) (zL s2))) (zS (As := [.ref (a0 13), .int 0]) hx hb hml hown hT hl.1 (c_Arrays_fill (a0 13) 64 (zA s0 13) 0 hc5) zY_Arrays_fill tb_793 (zpSw hK hP hD [4] (by decide) rfl rfl) rm_ok_Sets_begin_Arrays_fill rfl rfl (Nat.le_of_ble_eq_true rfl) dX7_begin_116 ⟨Nat.zero_le _, Nat.zero_le _⟩) hP hD hS hA [4] [0, 1, 2, 3, 5, 6, 7] [0, 1, 2, 3, 7, 4, 5, 6] rfl rfl (by decide) (by decide) (by decide) rfl rfl (fun H locs hP hD hS => ?_)
    cases hf
    exact zewv hx hb hr hk hK hP hD hS dX7_begin_119
  · have hf := zif_f hb_1 hf
    refine lv_aload_n hx hb dX7_begin_15 rfl (lv_at hl 2 rfl) ?_
    refine zget (v := .int (zI s2 0)) hx hb hown hT hK hP inX0 rfl smX0 7 rfl 0 (by decide) tb_253 rfl dX7_begin_16 ?_
    refine lv_aload_n hx hb dX7_begin_19 rfl (lv_at hl 1 rfl) ?_
    refine zget (v := .ref (a1 5)) hx hb hown hT hK hP inX9 rfl smX9 5 rfl 5 (by decide) tb_112 rfl dX7_begin_20 ?_
    refine lv_iload_n hx hb dX7_begin_23 rfl (lv_at hl 3 rfl) ?_
    obtain ⟨hi6, hf⟩ := zck_some hf
    refine va_iald hx hb hK.1 hP 6 0 rfl rfl hi6 dX7_begin_24 ?_
    refine lv_ishr hx hb dX7_begin_25 ?_
    refine lv_iconst (v := 1) hx hb dX7_begin_26 (by decide) ?_
    refine lv_iand hx hb dX7_begin_27 ?_
    refine lv_iconst (v := 1) hx hb dX7_begin_28 (by decide) ?_
    refine lv_icmp_ne (tgt := 67) hx hb dX7_begin_29 (by decide) (fun hb_7 => ?_) (fun hb_7 => ?_)
    · have hf := zif_f hb_7 hf
      exact k_Sets_begin_b67 C0 s0 s1 s2 v3 hk7 hA hP hD hS hf _ (lv_sub hl [0, 1, 2, 3] rfl)
    · have hf := zif_t hb_7 hf
      refine lv_aload_n hx hb dX7_begin_32 rfl (lv_at hl 0 rfl) ?_
      refine zget (v := .ref (a0 8)) hx hb hown hT hK hP inX7 rfl smX7 0 rfl 8 (by decide) tb_294 rfl dX7_begin_33 ?_
      refine lv_aload_n hx hb dX7_begin_36 rfl (lv_at hl 0 rfl) ?_
      refine zget (v := .int (zI s0 7)) hx hb hown hT hK hP inX7 rfl smX7 0 rfl 7 (by decide) tb_293 rfl dX7_begin_37 ?_
      refine lv_iload_n hx hb dX7_begin_40 rfl (lv_at hl 3 rfl) ?_
      obtain ⟨hi8, hf⟩ := zck_some hf
      refine zast (ws' := (wd_Sets_begin cy o0 a0 (zI s0) (zL s0) (upd (zA s0 8) (Int32.toNatClampNeg (zI s0 7)) v3) (zA s0 9) (zA s0 11) (zA s0 13) o1 a1 (zI s1) (zL s1) (zA s1 5) o2 a2 (zI s2) (zL s2))) hx hb hK hP hD hS 1 0 rfl rfl hi8 rfl dX7_begin_41 (fun H locs hP hD hS => ?_)
      refine lv_aload_n hx hb dX7_begin_42 rfl (lv_at hl 0 rfl) ?_
      refine zget (v := .ref (a0 9)) hx hb hown hT hK hP inX7 rfl smX7 0 rfl 9 (by decide) tb_295 rfl dX7_begin_43 ?_
      refine lv_aload_n hx hb dX7_begin_46 rfl (lv_at hl 0 rfl) ?_
      refine zget (v := .int (zI s0 7)) hx hb hown hT hK hP inX7 rfl smX7 0 rfl 7 (by decide) tb_293 rfl dX7_begin_47 ?_
      refine lv_aload_n hx hb dX7_begin_50 rfl (lv_at hl 1 rfl) ?_
      refine zget (v := .ref (a1 5)) hx hb hown hT hK hP inX9 rfl smX9 5 rfl 5 (by decide) tb_112 rfl dX7_begin_51 ?_
      refine lv_iload_n hx hb dX7_begin_54 rfl (lv_at hl 3 rfl) ?_
      obtain ⟨hi9, hf⟩ := zck_some hf
      refine va_iald hx hb hK.1 hP 6 0 rfl rfl hi9 dX7_begin_55 ?_
      obtain ⟨hi10, hf⟩ := zck_some hf
      refine zast (ws' := (wd_Sets_begin cy o0 a0 (zI s0) (zL s0) (upd (zA s0 8) (Int32.toNatClampNeg (zI s0 7)) v3) (upd (zA s0 9) (Int32.toNatClampNeg (zI s0 7)) ((zA s1 5) (Int32.toNatClampNeg v3))) (zA s0 11) (zA s0 13) o1 a1 (zI s1) (zL s1) (zA s1 5) o2 a2 (zI s2) (zL s2))) hx hb hK hP hD hS 2 0 rfl rfl hi10 rfl dX7_begin_56 (fun H locs hP hD hS => ?_)
      refine lv_aload_n hx hb dX7_begin_57 rfl (lv_at hl 0 rfl) ?_
      refine lv_dup hx hb dX7_begin_58 rfl ?_
      refine zget (v := .int (zI s0 7)) hx hb hown hT hK hP inX7 rfl smX7 0 rfl 7 (by decide) tb_293 rfl dX7_begin_59 ?_
      refine lv_iconst (v := 1) hx hb dX7_begin_62 (by decide) ?_
      refine lv_iadd hx hb dX7_begin_63 ?_
      refine zput (fs' := fs_Sets a0 (upd (zI s0) 7 ((zI s0 7) + 1)) (zL s0)) (ws' := (wd_Sets_begin cy o0 a0 (upd (zI s0) 7 ((zI s0 7) + 1)) (zL s0) (upd (zA s0 8) (Int32.toNatClampNeg (zI s0 7)) v3) (upd (zA s0 9) (Int32.toNatClampNeg (zI s0 7)) ((zA s1 5) (Int32.toNatClampNeg v3))) (zA s0 11) (zA s0 13) o1 a1 (zI s1) (zL s1) (zA s1 5) o2 a2 (zI s2) (zL s2))) hx hb hown hT hK hP hD hS inX7 rfl smX7 tyX7_ok nmX7 0 rfl 7 (by decide) tb_293 rfl rfl rfl (Nat.le_of_ble_eq_true rfl) rfl rfl dX7_begin_64 (fun H locs hP hD hS => ?_)
      exact k_Sets_begin_b67 C0 (zpI (zsA (zsA s0 8 (upd (zA s0 8) (Int32.toNatClampNeg (zI s0 7)) v3)) 9 (upd (zA s0 9) (Int32.toNatClampNeg (zI s0 7)) ((zA s1 5) (Int32.toNatClampNeg v3)))) 7 ((zI s0 7) + 1)) s1 s2 v3 hk7 hA hP hD hS hf _ (lv_sub hl [0, 1, 2, 3] rfl)
set_option maxHeartbeats 4000000 in
set_option maxRecDepth 100000 in
theorem k_Sets_begin_h7 {p : Program} {l : Launch} {e : Env} {s : State} {m : MethodId} {args : Array Value} {below : List Frame} {meth : Method} {c : Code} {dC : Nat → ClassId} {dI : Nat → Nat → Nat} {cy : Nat → ClassId} {A : Nat → Prop} {o0 : Nat} {a0 : Nat → Nat} {o1 : Nat} {a1 : Nat → Nat} {o2 : Nat} {a2 : Nat → Nat} {N : Nat} {y : zSt} (C0 : zCx p s m args meth c cX7_begin 4 none RX7 (dC, dI) cy) (s1 : zSt) (s2 : zSt) (hA : ∀ q, s.heap.size ≤ q → A q) : ∀ (n : Nat) (s0 : zSt) (v3 : Int32) {H : Heap} {locs : List Loc} (hP : va_P (dC, dI) vwCl (wd_Sets_begin cy o0 a0 (zI s0) (zL s0) (zA s0 8) (zA s0 9) (zA s0 11) (zA s0 13) o1 a1 (zI s1) (zL s1) (zA s1 5) o2 a2 (zI s2) (zL s2)) H) (hD : va_D A (wd_Sets_begin cy o0 a0 (zI s0) (zL s0) (zA s0 8) (zA s0 9) (zA s0 11) (zA s0 13) o1 a1 (zI s1) (zL s1) (zA s1 5) o2 a2 (zI s2) (zL s2))) (hS : va_S A s.heap H locs) (hf : Sets_begin_h7 N s1 s2 n s0 v3 = some y) (ls : Array Slot) (hl : lv_has ls 4 [(0, .ref o0), (1, .ref o1), (2, .ref o2), (3, .int v3)]), W p l e rm_Sets_begin s m args below meth c H locs 0 0 (MQ below (zQv (dC, dI) cy (wd_Sets_begin cy o0 a0 (zI y) (zL y) (zA y 8) (zA y 9) (zA y 11) (zA y 13) o1 a1 (zI s1) (zL s1) (zA s1 5) o2 a2 (zI s2) (zL s2)) A) args s 0 0 A) (F0 m 7 ls []) := by
  intro n
  induction n with
  | zero => intro s0 v3 H locs hP hD hS hf; cases hf
  | succ n ih =>
    intro s0 v3 H locs hP hD hS hf ls hl
    have hf : Sets_begin_b7 N (Sets_begin_h7 N s1 s2 n) s0 s1 s2 v3 = some y := hf
    exact k_Sets_begin_b7 C0 s0 s1 s2 v3 (fun s0 v3 _ _ hP hD hS hf ls hl => ih s0 v3 hP hD hS hf ls hl) hA hP hD hS hf ls hl
set_option maxHeartbeats 4000000 in
set_option maxRecDepth 100000 in
theorem k_Sets_begin_b0 {p : Program} {l : Launch} {e : Env} {s : State} {m : MethodId} {args : Array Value} {below : List Frame} {meth : Method} {c : Code} {dC : Nat → ClassId} {dI : Nat → Nat → Nat} {cy : Nat → ClassId} {A : Nat → Prop} {o0 : Nat} {a0 : Nat → Nat} {o1 : Nat} {a1 : Nat → Nat} {o2 : Nat} {a2 : Nat → Nat} {N : Nat} {y : zSt} (C0 : zCx p s m args meth c cX7_begin 4 none RX7 (dC, dI) cy) (s0 : zSt) (s1 : zSt) (s2 : zSt) (hA : ∀ q, s.heap.size ≤ q → A q) {H : Heap} {locs : List Loc} (hP : va_P (dC, dI) vwCl (wd_Sets_begin cy o0 a0 (zI s0) (zL s0) (zA s0 8) (zA s0 9) (zA s0 11) (zA s0 13) o1 a1 (zI s1) (zL s1) (zA s1 5) o2 a2 (zI s2) (zL s2)) H) (hD : va_D A (wd_Sets_begin cy o0 a0 (zI s0) (zL s0) (zA s0 8) (zA s0 9) (zA s0 11) (zA s0 13) o1 a1 (zI s1) (zL s1) (zA s1 5) o2 a2 (zI s2) (zL s2))) (hS : va_S A s.heap H locs) (hf : Sets_begin_b0 N s0 s1 s2 = some y) (ls : Array Slot) (hl : lv_has ls 4 [(0, .ref o0), (1, .ref o1), (2, .ref o2)]) : W p l e rm_Sets_begin s m args below meth c H locs 0 0 (MQ below (zQv (dC, dI) cy (wd_Sets_begin cy o0 a0 (zI y) (zL y) (zA y 8) (zA y 9) (zA y 11) (zA y 13) o1 a1 (zI s1) (zL s1) (zA s1 5) o2 a2 (zI s2) (zL s2)) A) args s 0 0 A) (F0 m 0 ls []) := by
  obtain ⟨hx, hb, hr, hml, hown, hT, hk, hK⟩ := id C0
  refine lv_aload_n hx hb dX7_begin_0 rfl (lv_at hl 0 rfl) ?_
  refine lv_iconst (v := 0) hx hb dX7_begin_1 (by decide) ?_
  refine zput (fs' := fs_Sets a0 (upd (zI s0) 7 0) (zL s0)) (ws' := (wd_Sets_begin cy o0 a0 (upd (zI s0) 7 0) (zL s0) (zA s0 8) (zA s0 9) (zA s0 11) (zA s0 13) o1 a1 (zI s1) (zL s1) (zA s1 5) o2 a2 (zI s2) (zL s2))) hx hb hown hT hK hP hD hS inX7 rfl smX7 tyX7_ok nmX7 0 rfl 7 (by decide) tb_293 rfl rfl rfl (Nat.le_of_ble_eq_true rfl) rfl rfl dX7_begin_2 (fun H locs hP hD hS => ?_)
  refine lv_iconst (v := 0) hx hb dX7_begin_5 (by decide) ?_
  refine lv_istore_n (lv' := [(3, .int 0), (0, .ref o0), (1, .ref o1), (2, .ref o2)]) hx hb dX7_begin_6 rfl hl (by decide) rfl (fun ls hl => ?_)
  exact k_Sets_begin_h7 C0 s1 s2  hA N (zpI s0 7 0) 0 hP hD hS hf _ (lv_sub hl [1, 2, 3, 0] rfl)
set_option maxHeartbeats 4000000 in
set_option maxRecDepth 100000 in
theorem c_Sets_begin {l : Launch} {dC : Nat → ClassId} {dI : Nat → Nat → Nat} {cy : Nat → ClassId} {sz : Nat} {N : Nat} (o0 : Nat) (a0 : Nat → Nat) (s0 : zSt) (o1 : Nat) (a1 : Nat → Nat) (s1 : zSt) (o2 : Nat) (a2 : Nat → Nat) (s2 : zSt) {y : zSt} (hf : Sets_begin N s0 s1 s2 = some y) : Met l yX7_begin (.code yX7_begin cX7_begin 4 none :: zt) rm_Sets_begin (va_Pc [.ref o0, .ref o1, .ref o2] (zPre (dC, dI) cy (wd_Sets_begin cy o0 a0 (zI s0) (zL s0) (zA s0 8) (zA s0 9) (zA s0 11) (zA s0 13) o1 a1 (zI s1) (zL s1) (zA s1 5) o2 a2 (zI s2) (zL s2)) sz)) (zQv (dC, dI) cy (wd_Sets_begin cy o0 a0 (zI y) (zL y) (zA y 8) (zA y 9) (zA y 11) (zA y 13) o1 a1 (zI s1) (zL s1) (zA s1 5) o2 a2 (zI s2) (zL s2)) (va_A (wd_Sets_begin cy o0 a0 (zI s0) (zL s0) (zA s0 8) (zA s0 9) (zA s0 11) (zA s0 13) o1 a1 (zI s1) (zL s1) (zA s1 5) o2 a2 (zI s2) (zL s2)) sz)) 0 0 (va_A (wd_Sets_begin cy o0 a0 (zI s0) (zL s0) (zA s0 8) (zA s0 9) (zA s0 11) (zA s0 13) o1 a1 (zI s1) (zL s1) (zA s1 5) o2 a2 (zI s2) (zL s2)) sz) :=
  zentW (Qw := fun A => (zQv (dC, dI) cy (wd_Sets_begin cy o0 a0 (zI y) (zL y) (zA y 8) (zA y 9) (zA y 11) (zA y 13) o1 a1 (zI s1) (zL s1) (zA s1 5) o2 a2 (zI s2) (zL s2)) A)) (by decide +kernel) (Nat.le_of_ble_eq_true rfl) (fun p e s m below meth c A C0 hA hP hD hS ls hl => k_Sets_begin_b0 C0 s0 s1 s2 hA hP hD hS hf ls hl)
def wd_Sets_add (cy : Nat → ClassId) (o0 : Nat) (a0 : Nat → Nat) (g0 : Nat → Int32) (h0 : Nat → Int64) (x0_9 : Nat → Int32) (x0_10 : Nat → Int32) (o1 n1 : Nat) (f1 : Nat → Int32) (o2 : Nat) (a2 : Nat → Nat) (g2 : Nat → Int32) (h2 : Nat → Int64) (x2_3 : Nat → Int32) : va_W := [(o0, .inr (7, fs_Sets a0 g0 h0)), (a0 9, .inl (cy 0, 11, .inl x0_9)), (a0 10, .inl (cy 0, 44, .inl x0_10)), (o1, .inl (cy 0, n1, .inl f1)), (o2, .inr (0, fs_Bounds a2 g2 h2)), (a2 3, .inl (cy 0, 4, .inl x2_3))]
def rm_Sets_add : Room := { frames := 1, cells := 0, slots := 0, locals := 40 }
set_option maxHeartbeats 4000000 in
set_option maxRecDepth 100000 in
theorem k_Sets_add_b3 {p : Program} {l : Launch} {e : Env} {s : State} {m : MethodId} {args : Array Value} {below : List Frame} {meth : Method} {c : Code} {dC : Nat → ClassId} {dI : Nat → Nat → Nat} {cy : Nat → ClassId} {A : Nat → Prop} {o0 : Nat} {a0 : Nat → Nat} {o1 : Nat} {o2 : Nat} {a2 : Nat → Nat} {N : Nat} {kh3 : (Nat → Int32) → Int32 → Option ((Nat → Int32))} {y : (Nat → Int32)} (C0 : zCx p s m args meth c cX7_add 7 none RX7 (dC, dI) cy) (s0 : zSt) (n1 : Nat) (f1 : Nat → Int32) (s2 : zSt) (v1 : Int32) (v2 : Int32) (v5 : Int32) (hk3 : ∀ (f1 : (Nat → Int32)) (v5 : Int32) {H : Heap} {locs : List Loc} (_ : va_P (dC, dI) vwCl (wd_Sets_add cy o0 a0 (zI s0) (zL s0) (zA s0 9) (zA s0 10) o1 n1 f1 o2 a2 (zI s2) (zL s2) (zA s2 3)) H) (_ : va_D A (wd_Sets_add cy o0 a0 (zI s0) (zL s0) (zA s0 9) (zA s0 10) o1 n1 f1 o2 a2 (zI s2) (zL s2) (zA s2 3))) (_ : va_S A s.heap H locs) (_ : kh3 f1 v5 = some y) (ls : Array Slot) (_ : lv_has ls 7 [(0, .ref o0), (1, .int v1), (2, .int v2), (3, .ref o1), (4, .ref o2), (5, .int v5)]), W p l e rm_Sets_add s m args below meth c H locs 0 0 (MQ below (zQv (dC, dI) cy (wd_Sets_add cy o0 a0 (zI s0) (zL s0) (zA s0 9) (zA s0 10) o1 n1 y o2 a2 (zI s2) (zL s2) (zA s2 3)) A) args s 0 0 A) (F0 m 3 ls [])) (hA : ∀ q, s.heap.size ≤ q → A q) {H : Heap} {locs : List Loc} (hP : va_P (dC, dI) vwCl (wd_Sets_add cy o0 a0 (zI s0) (zL s0) (zA s0 9) (zA s0 10) o1 n1 f1 o2 a2 (zI s2) (zL s2) (zA s2 3)) H) (hD : va_D A (wd_Sets_add cy o0 a0 (zI s0) (zL s0) (zA s0 9) (zA s0 10) o1 n1 f1 o2 a2 (zI s2) (zL s2) (zA s2 3))) (hS : va_S A s.heap H locs) (hf : Sets_add_b3 N kh3 s0 n1 f1 s2 v1 v2 v5 = some y) (ls : Array Slot) (hl : lv_has ls 7 [(0, .ref o0), (1, .int v1), (2, .int v2), (3, .ref o1), (4, .ref o2), (5, .int v5)]) : W p l e rm_Sets_add s m args below meth c H locs 0 0 (MQ below (zQv (dC, dI) cy (wd_Sets_add cy o0 a0 (zI s0) (zL s0) (zA s0 9) (zA s0 10) o1 n1 y o2 a2 (zI s2) (zL s2) (zA s2 3)) A) args s 0 0 A) (F0 m 3 ls []) := by
  obtain ⟨hx, hb, hr, hml, hown, hT, hk, hK⟩ := id C0
  refine lv_iload hx hb dX7_add_3 (lv_at hl 5 rfl) ?_
  refine lv_aload hx hb dX7_add_5 (lv_at hl 4 rfl) ?_
  refine zget (v := .int (zI s2 2)) hx hb hown hT hK hP inX0 rfl smX0 4 rfl 2 (by decide) tb_256 rfl dX7_add_7 ?_
  refine lv_icmp_ge (tgt := 59) hx hb dX7_add_10 (by decide) (fun hb_1 => ?_) (fun hb_1 => ?_)
  · have hf := zif_t hb_1 hf
    cases hf
    exact zewv hx hb hr hk hK hP hD hS dX7_add_59
  · have hf := zif_f hb_1 hf
    refine lv_aload hx hb dX7_add_13 (lv_at hl 4 rfl) ?_
    refine zget (v := .ref (a2 3)) hx hb hown hT hK hP inX0 rfl smX0 4 rfl 3 (by decide) tb_258 rfl dX7_add_15 ?_
    refine lv_iload hx hb dX7_add_18 (lv_at hl 5 rfl) ?_
    obtain ⟨hi2, hf⟩ := zck_some hf
    refine va_iald hx hb hK.1 hP 5 0 rfl rfl hi2 dX7_add_20 ?_
    refine lv_istore (lv' := [(6, .int ((zA s2 3) (Int32.toNatClampNeg v5))), (0, .ref o0), (1, .int v1), (2, .int v2), (3, .ref o1), (4, .ref o2), (5, .int v5)]) hx hb dX7_add_21 hl (by decide) rfl (fun ls hl => ?_)
    refine lv_aload_n hx hb dX7_add_23 rfl (lv_at hl 4 rfl) ?_
    refine lv_iload hx hb dX7_add_24 (lv_at hl 0 rfl) ?_
    refine lv_bipush (v := 12) hx hb dX7_add_26 (by decide) ?_
    refine lv_imul hx hb dX7_add_28 ?_
    refine lv_aload_n hx hb dX7_add_29 rfl (lv_at hl 1 rfl) ?_
    refine zget (v := .ref (a0 9)) hx hb hown hT hK hP inX7 rfl smX7 0 rfl 9 (by decide) tb_295 rfl dX7_add_30 ?_
    refine lv_iload_n hx hb dX7_add_33 rfl (lv_at hl 2 rfl) ?_
    obtain ⟨hi3, hf⟩ := zck_some hf
    refine va_iald hx hb hK.1 hP 1 0 rfl rfl hi3 dX7_add_34 ?_
    refine lv_iadd hx hb dX7_add_35 ?_
    refine lv_dup2_11 hx hb dX7_add_36 rfl rfl ?_
    obtain ⟨hi4, hf⟩ := zck_some hf
    refine va_iald hx hb hK.1 hP 3 0 rfl rfl hi4 dX7_add_37 ?_
    refine lv_iload_n hx hb dX7_add_38 rfl (lv_at hl 3 rfl) ?_
    refine lv_aload_n hx hb dX7_add_39 rfl (lv_at hl 1 rfl) ?_
    refine zget (v := .ref (a0 10)) hx hb hown hT hK hP inX7 rfl smX7 0 rfl 10 (by decide) tb_296 rfl dX7_add_40 ?_
    refine lv_iload_n hx hb dX7_add_43 rfl (lv_at hl 2 rfl) ?_
    refine lv_iconst (v := 4) hx hb dX7_add_44 (by decide) ?_
    refine lv_imul hx hb dX7_add_45 ?_
    refine lv_iload hx hb dX7_add_46 (lv_at hl 0 rfl) ?_
    refine lv_iadd hx hb dX7_add_48 ?_
    obtain ⟨hi5, hf⟩ := zck_some hf
    refine va_iald hx hb hK.1 hP 2 0 rfl rfl hi5 dX7_add_49 ?_
    refine lv_imul hx hb dX7_add_50 ?_
    refine lv_iadd hx hb dX7_add_51 ?_
    obtain ⟨hi6, hf⟩ := zck_some hf
    refine zast (ws' := (wd_Sets_add cy o0 a0 (zI s0) (zL s0) (zA s0 9) (zA s0 10) o1 n1 (upd f1 (Int32.toNatClampNeg ((((zA s2 3) (Int32.toNatClampNeg v5)) * 12) + ((zA s0 9) (Int32.toNatClampNeg v1)))) ((f1 (Int32.toNatClampNeg ((((zA s2 3) (Int32.toNatClampNeg v5)) * 12) + ((zA s0 9) (Int32.toNatClampNeg v1))))) + (v2 * ((zA s0 10) (Int32.toNatClampNeg ((v1 * 4) + ((zA s2 3) (Int32.toNatClampNeg v5)))))))) o2 a2 (zI s2) (zL s2) (zA s2 3))) hx hb hK hP hD hS 3 0 rfl rfl hi6 rfl dX7_add_52 (fun H locs hP hD hS => ?_)
    refine lv_iinc (v := v5 + 1) (lv' := [(5, .int (v5 + 1)), (6, .int ((zA s2 3) (Int32.toNatClampNeg v5))), (0, .ref o0), (1, .int v1), (2, .int v2), (3, .ref o1), (4, .ref o2)]) hx hb dX7_add_53 hl (k := 6) rfl rfl (by decide) rfl (fun ls hl => ?_)
    refine lv_goto (tgt := 3) hx hb dX7_add_56 (by decide) ?_
    exact hk3 (upd f1 (Int32.toNatClampNeg ((((zA s2 3) (Int32.toNatClampNeg v5)) * 12) + ((zA s0 9) (Int32.toNatClampNeg v1)))) ((f1 (Int32.toNatClampNeg ((((zA s2 3) (Int32.toNatClampNeg v5)) * 12) + ((zA s0 9) (Int32.toNatClampNeg v1))))) + (v2 * ((zA s0 10) (Int32.toNatClampNeg ((v1 * 4) + ((zA s2 3) (Int32.toNatClampNeg v5)))))))) (v5 + 1) hP hD hS hf _ (lv_sub hl [2, 3, 4, 5, 6, 0] rfl)
set_option maxHeartbeats 4000000 in
set_option maxRecDepth 100000 in
theorem k_Sets_add_h3 {p : Program} {l : Launch} {e : Env} {s : State} {m : MethodId} {args : Array Value} {below : List Frame} {meth : Method} {c : Code} {dC : Nat → ClassId} {dI : Nat → Nat → Nat} {cy : Nat → ClassId} {A : Nat → Prop} {o0 : Nat} {a0 : Nat → Nat} {o1 : Nat} {o2 : Nat} {a2 : Nat → Nat} {N : Nat} {y : (Nat → Int32)} (C0 : zCx p s m args meth c cX7_add 7 none RX7 (dC, dI) cy) (s0 : zSt) (n1 : Nat) (s2 : zSt) (v1 : Int32) (v2 : Int32) (hA : ∀ q, s.heap.size ≤ q → A q) : ∀ (n : Nat) (f1 : (Nat → Int32)) (v5 : Int32) {H : Heap} {locs : List Loc} (hP : va_P (dC, dI) vwCl (wd_Sets_add cy o0 a0 (zI s0) (zL s0) (zA s0 9) (zA s0 10) o1 n1 f1 o2 a2 (zI s2) (zL s2) (zA s2 3)) H) (hD : va_D A (wd_Sets_add cy o0 a0 (zI s0) (zL s0) (zA s0 9) (zA s0 10) o1 n1 f1 o2 a2 (zI s2) (zL s2) (zA s2 3))) (hS : va_S A s.heap H locs) (hf : Sets_add_h3 N s0 n1 s2 v1 v2 n f1 v5 = some y) (ls : Array Slot) (hl : lv_has ls 7 [(0, .ref o0), (1, .int v1), (2, .int v2), (3, .ref o1), (4, .ref o2), (5, .int v5)]), W p l e rm_Sets_add s m args below meth c H locs 0 0 (MQ below (zQv (dC, dI) cy (wd_Sets_add cy o0 a0 (zI s0) (zL s0) (zA s0 9) (zA s0 10) o1 n1 y o2 a2 (zI s2) (zL s2) (zA s2 3)) A) args s 0 0 A) (F0 m 3 ls []) := by
  intro n
  induction n with
  | zero => intro f1 v5 H locs hP hD hS hf; cases hf
  | succ n ih =>
    intro f1 v5 H locs hP hD hS hf ls hl
    have hf : Sets_add_b3 N (Sets_add_h3 N s0 n1 s2 v1 v2 n) s0 n1 f1 s2 v1 v2 v5 = some y := hf
    exact k_Sets_add_b3 C0 s0 n1 f1 s2 v1 v2 v5 (fun f1 v5 _ _ hP hD hS hf ls hl => ih f1 v5 hP hD hS hf ls hl) hA hP hD hS hf ls hl
set_option maxHeartbeats 4000000 in
set_option maxRecDepth 100000 in
theorem k_Sets_add_b0 {p : Program} {l : Launch} {e : Env} {s : State} {m : MethodId} {args : Array Value} {below : List Frame} {meth : Method} {c : Code} {dC : Nat → ClassId} {dI : Nat → Nat → Nat} {cy : Nat → ClassId} {A : Nat → Prop} {o0 : Nat} {a0 : Nat → Nat} {o1 : Nat} {o2 : Nat} {a2 : Nat → Nat} {N : Nat} {y : (Nat → Int32)} (C0 : zCx p s m args meth c cX7_add 7 none RX7 (dC, dI) cy) (s0 : zSt) (n1 : Nat) (f1 : Nat → Int32) (s2 : zSt) (v1 : Int32) (v2 : Int32) (hA : ∀ q, s.heap.size ≤ q → A q) {H : Heap} {locs : List Loc} (hP : va_P (dC, dI) vwCl (wd_Sets_add cy o0 a0 (zI s0) (zL s0) (zA s0 9) (zA s0 10) o1 n1 f1 o2 a2 (zI s2) (zL s2) (zA s2 3)) H) (hD : va_D A (wd_Sets_add cy o0 a0 (zI s0) (zL s0) (zA s0 9) (zA s0 10) o1 n1 f1 o2 a2 (zI s2) (zL s2) (zA s2 3))) (hS : va_S A s.heap H locs) (hf : Sets_add_b0 N s0 n1 f1 s2 v1 v2 = some y) (ls : Array Slot) (hl : lv_has ls 7 [(0, .ref o0), (1, .int v1), (2, .int v2), (3, .ref o1), (4, .ref o2)]) : W p l e rm_Sets_add s m args below meth c H locs 0 0 (MQ below (zQv (dC, dI) cy (wd_Sets_add cy o0 a0 (zI s0) (zL s0) (zA s0 9) (zA s0 10) o1 n1 y o2 a2 (zI s2) (zL s2) (zA s2 3)) A) args s 0 0 A) (F0 m 0 ls []) := by
  obtain ⟨hx, hb, hr, hml, hown, hT, hk, hK⟩ := id C0
  refine lv_iconst (v := 0) hx hb dX7_add_0 (by decide) ?_
  refine lv_istore (lv' := [(5, .int 0), (0, .ref o0), (1, .int v1), (2, .int v2), (3, .ref o1), (4, .ref o2)]) hx hb dX7_add_1 hl (by decide) rfl (fun ls hl => ?_)
  exact k_Sets_add_h3 C0 s0 n1 s2 v1 v2  hA N f1 0 hP hD hS hf _ (lv_sub hl [1, 2, 3, 4, 5, 0] rfl)
set_option maxHeartbeats 4000000 in
set_option maxRecDepth 100000 in
theorem c_Sets_add {l : Launch} {dC : Nat → ClassId} {dI : Nat → Nat → Nat} {cy : Nat → ClassId} {sz : Nat} {N : Nat} (o0 : Nat) (a0 : Nat → Nat) (s0 : zSt) (o1 n1 : Nat) (f1 : Nat → Int32) (o2 : Nat) (a2 : Nat → Nat) (s2 : zSt) (v1 : Int32) (v2 : Int32) {y : (Nat → Int32)} (hf : Sets_add N s0 n1 f1 s2 v1 v2 = some y) : Met l yX7_add (.code yX7_add cX7_add 7 none :: zt) rm_Sets_add (va_Pc [.ref o0, .int v1, .int v2, .ref o1, .ref o2] (zPre (dC, dI) cy (wd_Sets_add cy o0 a0 (zI s0) (zL s0) (zA s0 9) (zA s0 10) o1 n1 f1 o2 a2 (zI s2) (zL s2) (zA s2 3)) sz)) (zQv (dC, dI) cy (wd_Sets_add cy o0 a0 (zI s0) (zL s0) (zA s0 9) (zA s0 10) o1 n1 y o2 a2 (zI s2) (zL s2) (zA s2 3)) (va_A (wd_Sets_add cy o0 a0 (zI s0) (zL s0) (zA s0 9) (zA s0 10) o1 n1 f1 o2 a2 (zI s2) (zL s2) (zA s2 3)) sz)) 0 0 (va_A (wd_Sets_add cy o0 a0 (zI s0) (zL s0) (zA s0 9) (zA s0 10) o1 n1 f1 o2 a2 (zI s2) (zL s2) (zA s2 3)) sz) :=
  zentW (Qw := fun A => (zQv (dC, dI) cy (wd_Sets_add cy o0 a0 (zI s0) (zL s0) (zA s0 9) (zA s0 10) o1 n1 y o2 a2 (zI s2) (zL s2) (zA s2 3)) A)) (by decide +kernel) (Nat.le_of_ble_eq_true rfl) (fun p e s m below meth c A C0 hA hP hD hS ls hl => k_Sets_add_b0 C0 s0 n1 f1 s2 v1 v2 hA hP hD hS hf ls hl)
def wd_Sets_weigh (cy : Nat → ClassId) (o0 : Nat) (a0 : Nat → Nat) (g0 : Nat → Int32) (h0 : Nat → Int64) (x0_8 : Nat → Int32) (x0_9 : Nat → Int32) (x0_10 : Nat → Int32) (x0_12 : Nat → Int32) (o1 : Nat) (a1 : Nat → Nat) (g1 : Nat → Int32) (h1 : Nat → Int64) (x1_6 : Nat → Int32) (x1_14 : Nat → Int32) (o2 : Nat) (a2 : Nat → Nat) (g2 : Nat → Int32) (h2 : Nat → Int64) (x2_3 : Nat → Int32) : va_W := [(o0, .inr (7, fs_Sets a0 g0 h0)), (a0 8, .inl (cy 0, 11, .inl x0_8)), (a0 9, .inl (cy 0, 11, .inl x0_9)), (a0 10, .inl (cy 0, 44, .inl x0_10)), (a0 12, .inl (cy 0, 48, .inl x0_12)), (o1, .inr (9, fs_Valley a1 g1 h1)), (a1 6, .inl (cy 0, 11, .inl x1_6)), (a1 14, .inl (cy 0, 4, .inl x1_14)), (o2, .inr (0, fs_Bounds a2 g2 h2)), (a2 3, .inl (cy 0, 4, .inl x2_3))]
def rm_Sets_weigh : Room := { frames := 3, cells := 0, slots := 0, locals := 86 }
theorem rm_ok_Sets_weigh_Arrays_fill : rm_Arrays_fill.cells = 0 ∧ rm_Arrays_fill.slots = 0 ∧ rm_Arrays_fill.frames + 1 ≤ rm_Sets_weigh.frames ∧ 8 + (4 + 11) + rm_Arrays_fill.locals ≤ rm_Sets_weigh.locals := by decide
theorem rm_ok_Sets_weigh_Sets_add : rm_Sets_add.cells = 0 ∧ rm_Sets_add.slots = 0 ∧ rm_Sets_add.frames + 1 ≤ rm_Sets_weigh.frames ∧ 8 + (7 + 11) + rm_Sets_add.locals ≤ rm_Sets_weigh.locals := by decide
theorem rm_ok_Sets_weigh_Valley_loudAt : rm_Valley_loudAt.cells = 0 ∧ rm_Valley_loudAt.slots = 0 ∧ rm_Valley_loudAt.frames + 1 ≤ rm_Sets_weigh.frames ∧ 8 + (6 + 11) + rm_Valley_loudAt.locals ≤ rm_Sets_weigh.locals := by decide
set_option maxHeartbeats 4000000 in
set_option maxRecDepth 100000 in
theorem k_Sets_weigh_b23 {p : Program} {l : Launch} {e : Env} {s : State} {m : MethodId} {args : Array Value} {below : List Frame} {meth : Method} {c : Code} {dC : Nat → ClassId} {dI : Nat → Nat → Nat} {cy : Nat → ClassId} {A : Nat → Prop} {o0 : Nat} {a0 : Nat → Nat} {o1 : Nat} {a1 : Nat → Nat} {o2 : Nat} {a2 : Nat → Nat} {N : Nat} {kh11 : zSt → Int32 → Option (zSt)} {kh23 : zSt → Int32 → Option (zSt)} {y : zSt} (C0 : zCx p s m args meth c cX7_weigh 8 none RX7 (dC, dI) cy) (s0 : zSt) (s1 : zSt) (s2 : zSt) (v3 : Int32) (v4 : Int32) (v5 : Int32) (v6 : Int32) (hk11 : ∀ (s0 : zSt) (v5 : Int32) {H : Heap} {locs : List Loc} (_ : va_P (dC, dI) vwCl (wd_Sets_weigh cy o0 a0 (zI s0) (zL s0) (zA s0 8) (zA s0 9) (zA s0 10) (zA s0 12) o1 a1 (zI s1) (zL s1) (zA s1 6) (zA s1 14) o2 a2 (zI s2) (zL s2) (zA s2 3)) H) (_ : va_D A (wd_Sets_weigh cy o0 a0 (zI s0) (zL s0) (zA s0 8) (zA s0 9) (zA s0 10) (zA s0 12) o1 a1 (zI s1) (zL s1) (zA s1 6) (zA s1 14) o2 a2 (zI s2) (zL s2) (zA s2 3))) (_ : va_S A s.heap H locs) (_ : kh11 s0 v5 = some y) (ls : Array Slot) (_ : lv_has ls 8 [(0, .ref o0), (1, .ref o1), (2, .ref o2), (3, .int v3), (4, .int v4), (5, .int v5)]), W p l e rm_Sets_weigh s m args below meth c H locs 0 0 (MQ below (zQv (dC, dI) cy (wd_Sets_weigh cy o0 a0 (zI y) (zL y) (zA y 8) (zA y 9) (zA y 10) (zA y 12) o1 a1 (zI s1) (zL s1) (zA s1 6) (zA s1 14) o2 a2 (zI s2) (zL s2) (zA s2 3)) A) args s 0 0 A) (F0 m 11 ls [])) (hk23 : ∀ (s0 : zSt) (v6 : Int32) {H : Heap} {locs : List Loc} (_ : va_P (dC, dI) vwCl (wd_Sets_weigh cy o0 a0 (zI s0) (zL s0) (zA s0 8) (zA s0 9) (zA s0 10) (zA s0 12) o1 a1 (zI s1) (zL s1) (zA s1 6) (zA s1 14) o2 a2 (zI s2) (zL s2) (zA s2 3)) H) (_ : va_D A (wd_Sets_weigh cy o0 a0 (zI s0) (zL s0) (zA s0 8) (zA s0 9) (zA s0 10) (zA s0 12) o1 a1 (zI s1) (zL s1) (zA s1 6) (zA s1 14) o2 a2 (zI s2) (zL s2) (zA s2 3))) (_ : va_S A s.heap H locs) (_ : kh23 s0 v6 = some y) (ls : Array Slot) (_ : lv_has ls 8 [(0, .ref o0), (1, .ref o1), (2, .ref o2), (3, .int v3), (4, .int v4), (5, .int v5), (6, .int v6)]), W p l e rm_Sets_weigh s m args below meth c H locs 0 0 (MQ below (zQv (dC, dI) cy (wd_Sets_weigh cy o0 a0 (zI y) (zL y) (zA y 8) (zA y 9) (zA y 10) (zA y 12) o1 a1 (zI s1) (zL s1) (zA s1 6) (zA s1 14) o2 a2 (zI s2) (zL s2) (zA s2 3)) A) args s 0 0 A) (F0 m 23 ls [])) (hA : ∀ q, s.heap.size ≤ q → A q) {H : Heap} {locs : List Loc} (hP : va_P (dC, dI) vwCl (wd_Sets_weigh cy o0 a0 (zI s0) (zL s0) (zA s0 8) (zA s0 9) (zA s0 10) (zA s0 12) o1 a1 (zI s1) (zL s1) (zA s1 6) (zA s1 14) o2 a2 (zI s2) (zL s2) (zA s2 3)) H) (hD : va_D A (wd_Sets_weigh cy o0 a0 (zI s0) (zL s0) (zA s0 8) (zA s0 9) (zA s0 10) (zA s0 12) o1 a1 (zI s1) (zL s1) (zA s1 6) (zA s1 14) o2 a2 (zI s2) (zL s2) (zA s2 3))) (hS : va_S A s.heap H locs) (hf : Sets_weigh_b23 N kh11 kh23 s0 s1 s2 v3 v4 v5 v6 = some y) (ls : Array Slot) (hl : lv_has ls 8 [(0, .ref o0), (1, .ref o1), (2, .ref o2), (3, .int v3), (4, .int v4), (5, .int v5), (6, .int v6)]) : W p l e rm_Sets_weigh s m args below meth c H locs 0 0 (MQ below (zQv (dC, dI) cy (wd_Sets_weigh cy o0 a0 (zI y) (zL y) (zA y 8) (zA y 9) (zA y 10) (zA y 12) o1 a1 (zI s1) (zL s1) (zA s1 6) (zA s1 14) o2 a2 (zI s2) (zL s2) (zA s2 3)) A) args s 0 0 A) (F0 m 23 ls []) := by
  obtain ⟨hx, hb, hr, hml, hown, hT, hk, hK⟩ := id C0
  refine lv_iload hx hb dX7_weigh_23 (lv_at hl 6 rfl) ?_
  refine lv_aload_n hx hb dX7_weigh_25 rfl (lv_at hl 2 rfl) ?_
  refine zget (v := .int (zI s2 2)) hx hb hown hT hK hP inX0 rfl smX0 8 rfl 2 (by decide) tb_256 rfl dX7_weigh_26 ?_
  refine lv_icmp_ge (tgt := 75) hx hb dX7_weigh_29 (by decide) (fun hb_1 => ?_) (fun hb_1 => ?_)
  · have hf := zif_t hb_1 hf
    refine lv_aload_n hx hb dX7_weigh_75 rfl (lv_at hl 0 rfl) ?_
    refine lv_iload hx hb dX7_weigh_76 (lv_at hl 5 rfl) ?_
    refine lv_iconst (v := 1) hx hb dX7_weigh_78 (by decide) ?_
    refine lv_aload_n hx hb dX7_weigh_79 rfl (lv_at hl 0 rfl) ?_
    refine zget (v := .ref (a0 12)) hx hb hown hT hK hP inX7 rfl smX7 0 rfl 12 (by decide) tb_298 rfl dX7_weigh_80 ?_
    refine lv_aload_n hx hb dX7_weigh_83 rfl (lv_at hl 2 rfl) ?_
    obtain ⟨z2, hc3, hf⟩ := zbd_some hf
    refine zwv (wr := [(a0 8, .inl (cy 0, 11, .inl (zA s0 8))), (o1, .inr (9, fs_Valley a1 (zI s1) (zL s1))), (a1 6, .inl (cy 0, 11, .inl (zA s1 6))), (a1 14, .inl (cy 0, 4, .inl (zA s1 14)))]) (ws' := (wd_Sets_weigh cy o0 a0 (zI s0) (zL s0) (zA s0 8) (zA s0 9) (zA s0 10) z2 o1 a1 (zI s1) (zL s1) (zA s1 6) (zA s1 14) o2 a2 (zI s2) (zL s2) (zA s2 3))) (zV (As := [.int v5, .int 1, .ref (a0 12), .ref o2]) hx hb hml hown hT hl.1 (c_Sets_add o0 a0 s0 (a0 12) 48 (zA s0 12) o2 a2 s2 v5 1 hc3) zY_Sets_add tb_799 (zpRw hK hP hD [0, 2, 3, 4, 8, 9] (by decide) rfl 0 7 rfl rfl rfl rfl) rm_ok_Sets_weigh_Sets_add rfl rfl (Nat.le_of_ble_eq_true rfl) dX7_weigh_84 ⟨Nat.zero_le _, Nat.zero_le _⟩) hP hD hS hA [0, 2, 3, 4, 8, 9] [1, 5, 6, 7] [4, 0, 5, 6, 7, 1, 2, 3, 8, 9] rfl rfl (by decide) (by decide) (by decide) rfl rfl (fun H locs hP hD hS => ?_)
    refine lv_iinc (v := v5 + 1) (lv' := [(5, .int (v5 + 1)), (0, .ref o0), (1, .ref o1), (2, .ref o2), (3, .int v3), (4, .int v4), (6, .int v6)]) hx hb dX7_weigh_87 hl (k := 5) rfl rfl (by decide) rfl (fun ls hl => ?_)
    refine lv_goto (tgt := 11) hx hb dX7_weigh_90 (by decide) ?_
    exact hk11 (zsA s0 12 z2) (v5 + 1) hP hD hS hf _ (lv_sub hl [1, 2, 3, 4, 5, 0] rfl)
  · have hf := zif_f hb_1 hf
    refine lv_aload_n hx hb dX7_weigh_32 rfl (lv_at hl 2 rfl) ?_
    refine zget (v := .ref (a2 3)) hx hb hown hT hK hP inX0 rfl smX0 8 rfl 3 (by decide) tb_258 rfl dX7_weigh_33 ?_
    refine lv_iload hx hb dX7_weigh_36 (lv_at hl 6 rfl) ?_
    obtain ⟨hi4, hf⟩ := zck_some hf
    refine va_iald hx hb hK.1 hP 9 0 rfl rfl hi4 dX7_weigh_38 ?_
    refine lv_istore (lv' := [(7, .int ((zA s2 3) (Int32.toNatClampNeg v6))), (0, .ref o0), (1, .ref o1), (2, .ref o2), (3, .int v3), (4, .int v4), (5, .int v5), (6, .int v6)]) hx hb dX7_weigh_39 hl (by decide) rfl (fun ls hl => ?_)
    refine lv_aload_n hx hb dX7_weigh_41 rfl (lv_at hl 1 rfl) ?_
    refine zget (v := .ref (a0 10)) hx hb hown hT hK hP inX7 rfl smX7 0 rfl 10 (by decide) tb_296 rfl dX7_weigh_42 ?_
    refine lv_iload hx hb dX7_weigh_45 (lv_at hl 6 rfl) ?_
    refine lv_iconst (v := 4) hx hb dX7_weigh_47 (by decide) ?_
    refine lv_imul hx hb dX7_weigh_48 ?_
    refine lv_iload hx hb dX7_weigh_49 (lv_at hl 0 rfl) ?_
    refine lv_iadd hx hb dX7_weigh_51 ?_
    refine lv_aload_n hx hb dX7_weigh_52 rfl (lv_at hl 2 rfl) ?_
    refine lv_aload_n hx hb dX7_weigh_53 rfl (lv_at hl 1 rfl) ?_
    refine zget (v := .ref (a0 8)) hx hb hown hT hK hP inX7 rfl smX7 0 rfl 8 (by decide) tb_294 rfl dX7_weigh_54 ?_
    refine lv_iload hx hb dX7_weigh_57 (lv_at hl 6 rfl) ?_
    obtain ⟨hi5, hf⟩ := zck_some hf
    refine va_iald hx hb hK.1 hP 1 0 rfl rfl hi5 dX7_weigh_59 ?_
    refine lv_iload hx hb dX7_weigh_60 (lv_at hl 0 rfl) ?_
    refine lv_iload_n hx hb dX7_weigh_62 rfl (lv_at hl 4 rfl) ?_
    refine lv_iload hx hb dX7_weigh_63 (lv_at hl 5 rfl) ?_
    obtain ⟨z6, hc7, hf⟩ := zbd_some hf
    refine zri (zV (As := [.int ((zA s0 8) (Int32.toNatClampNeg v5)), .int ((zA s2 3) (Int32.toNatClampNeg v6)), .int v3, .int v4]) hx hb hml hown hT hl.1 (c_Valley_loudAt o1 a1 s1 ((zA s0 8) (Int32.toNatClampNeg v5)) ((zA s2 3) (Int32.toNatClampNeg v6)) v3 v4 hc7) zY_Valley_loudAt tb_798 (zpR hK hP [5, 6, 7] rfl 0 9 rfl rfl rfl) rm_ok_Sets_weigh_Valley_loudAt rfl rfl (Nat.le_of_ble_eq_true rfl) dX7_weigh_65 ⟨Nat.zero_le _, Nat.zero_le _⟩) ?_
    obtain ⟨hi8, hf⟩ := zck_some hf
    refine zast (ws' := (wd_Sets_weigh cy o0 a0 (zI s0) (zL s0) (zA s0 8) (zA s0 9) (upd (zA s0 10) (Int32.toNatClampNeg ((v5 * 4) + ((zA s2 3) (Int32.toNatClampNeg v6)))) z6) (zA s0 12) o1 a1 (zI s1) (zL s1) (zA s1 6) (zA s1 14) o2 a2 (zI s2) (zL s2) (zA s2 3))) hx hb hK hP hD hS 3 0 rfl rfl hi8 rfl dX7_weigh_68 (fun H locs hP hD hS => ?_)
    refine lv_iinc (v := v6 + 1) (lv' := [(6, .int (v6 + 1)), (7, .int ((zA s2 3) (Int32.toNatClampNeg v6))), (0, .ref o0), (1, .ref o1), (2, .ref o2), (3, .int v3), (4, .int v4), (5, .int v5)]) hx hb dX7_weigh_69 hl (k := 7) rfl rfl (by decide) rfl (fun ls hl => ?_)
    refine lv_goto (tgt := 23) hx hb dX7_weigh_72 (by decide) ?_
    exact hk23 (zsA s0 10 (upd (zA s0 10) (Int32.toNatClampNeg ((v5 * 4) + ((zA s2 3) (Int32.toNatClampNeg v6)))) z6)) (v6 + 1) hP hD hS hf _ (lv_sub hl [2, 3, 4, 5, 6, 7, 0] rfl)
set_option maxHeartbeats 4000000 in
set_option maxRecDepth 100000 in
theorem k_Sets_weigh_h23 {p : Program} {l : Launch} {e : Env} {s : State} {m : MethodId} {args : Array Value} {below : List Frame} {meth : Method} {c : Code} {dC : Nat → ClassId} {dI : Nat → Nat → Nat} {cy : Nat → ClassId} {A : Nat → Prop} {o0 : Nat} {a0 : Nat → Nat} {o1 : Nat} {a1 : Nat → Nat} {o2 : Nat} {a2 : Nat → Nat} {N : Nat} {kh11 : zSt → Int32 → Option (zSt)} {y : zSt} (C0 : zCx p s m args meth c cX7_weigh 8 none RX7 (dC, dI) cy) (s1 : zSt) (s2 : zSt) (v3 : Int32) (v4 : Int32) (v5 : Int32) (hk11 : ∀ (s0 : zSt) (v5 : Int32) {H : Heap} {locs : List Loc} (_ : va_P (dC, dI) vwCl (wd_Sets_weigh cy o0 a0 (zI s0) (zL s0) (zA s0 8) (zA s0 9) (zA s0 10) (zA s0 12) o1 a1 (zI s1) (zL s1) (zA s1 6) (zA s1 14) o2 a2 (zI s2) (zL s2) (zA s2 3)) H) (_ : va_D A (wd_Sets_weigh cy o0 a0 (zI s0) (zL s0) (zA s0 8) (zA s0 9) (zA s0 10) (zA s0 12) o1 a1 (zI s1) (zL s1) (zA s1 6) (zA s1 14) o2 a2 (zI s2) (zL s2) (zA s2 3))) (_ : va_S A s.heap H locs) (_ : kh11 s0 v5 = some y) (ls : Array Slot) (_ : lv_has ls 8 [(0, .ref o0), (1, .ref o1), (2, .ref o2), (3, .int v3), (4, .int v4), (5, .int v5)]), W p l e rm_Sets_weigh s m args below meth c H locs 0 0 (MQ below (zQv (dC, dI) cy (wd_Sets_weigh cy o0 a0 (zI y) (zL y) (zA y 8) (zA y 9) (zA y 10) (zA y 12) o1 a1 (zI s1) (zL s1) (zA s1 6) (zA s1 14) o2 a2 (zI s2) (zL s2) (zA s2 3)) A) args s 0 0 A) (F0 m 11 ls [])) (hA : ∀ q, s.heap.size ≤ q → A q) : ∀ (n : Nat) (s0 : zSt) (v6 : Int32) {H : Heap} {locs : List Loc} (hP : va_P (dC, dI) vwCl (wd_Sets_weigh cy o0 a0 (zI s0) (zL s0) (zA s0 8) (zA s0 9) (zA s0 10) (zA s0 12) o1 a1 (zI s1) (zL s1) (zA s1 6) (zA s1 14) o2 a2 (zI s2) (zL s2) (zA s2 3)) H) (hD : va_D A (wd_Sets_weigh cy o0 a0 (zI s0) (zL s0) (zA s0 8) (zA s0 9) (zA s0 10) (zA s0 12) o1 a1 (zI s1) (zL s1) (zA s1 6) (zA s1 14) o2 a2 (zI s2) (zL s2) (zA s2 3))) (hS : va_S A s.heap H locs) (hf : Sets_weigh_h23 N kh11 s1 s2 v3 v4 v5 n s0 v6 = some y) (ls : Array Slot) (hl : lv_has ls 8 [(0, .ref o0), (1, .ref o1), (2, .ref o2), (3, .int v3), (4, .int v4), (5, .int v5), (6, .int v6)]), W p l e rm_Sets_weigh s m args below meth c H locs 0 0 (MQ below (zQv (dC, dI) cy (wd_Sets_weigh cy o0 a0 (zI y) (zL y) (zA y 8) (zA y 9) (zA y 10) (zA y 12) o1 a1 (zI s1) (zL s1) (zA s1 6) (zA s1 14) o2 a2 (zI s2) (zL s2) (zA s2 3)) A) args s 0 0 A) (F0 m 23 ls []) := by
  intro n
  induction n with
  | zero => intro s0 v6 H locs hP hD hS hf; cases hf
  | succ n ih =>
    intro s0 v6 H locs hP hD hS hf ls hl
    have hf : Sets_weigh_b23 N kh11 (Sets_weigh_h23 N kh11 s1 s2 v3 v4 v5 n) s0 s1 s2 v3 v4 v5 v6 = some y := hf
    exact k_Sets_weigh_b23 C0 s0 s1 s2 v3 v4 v5 v6 hk11 (fun s0 v6 _ _ hP hD hS hf ls hl => ih s0 v6 hP hD hS hf ls hl) hA hP hD hS hf ls hl
set_option maxHeartbeats 4000000 in
set_option maxRecDepth 100000 in
theorem k_Sets_weigh_b11 {p : Program} {l : Launch} {e : Env} {s : State} {m : MethodId} {args : Array Value} {below : List Frame} {meth : Method} {c : Code} {dC : Nat → ClassId} {dI : Nat → Nat → Nat} {cy : Nat → ClassId} {A : Nat → Prop} {o0 : Nat} {a0 : Nat → Nat} {o1 : Nat} {a1 : Nat → Nat} {o2 : Nat} {a2 : Nat → Nat} {N : Nat} {kh11 : zSt → Int32 → Option (zSt)} {y : zSt} (C0 : zCx p s m args meth c cX7_weigh 8 none RX7 (dC, dI) cy) (s0 : zSt) (s1 : zSt) (s2 : zSt) (v3 : Int32) (v4 : Int32) (v5 : Int32) (hk11 : ∀ (s0 : zSt) (v5 : Int32) {H : Heap} {locs : List Loc} (_ : va_P (dC, dI) vwCl (wd_Sets_weigh cy o0 a0 (zI s0) (zL s0) (zA s0 8) (zA s0 9) (zA s0 10) (zA s0 12) o1 a1 (zI s1) (zL s1) (zA s1 6) (zA s1 14) o2 a2 (zI s2) (zL s2) (zA s2 3)) H) (_ : va_D A (wd_Sets_weigh cy o0 a0 (zI s0) (zL s0) (zA s0 8) (zA s0 9) (zA s0 10) (zA s0 12) o1 a1 (zI s1) (zL s1) (zA s1 6) (zA s1 14) o2 a2 (zI s2) (zL s2) (zA s2 3))) (_ : va_S A s.heap H locs) (_ : kh11 s0 v5 = some y) (ls : Array Slot) (_ : lv_has ls 8 [(0, .ref o0), (1, .ref o1), (2, .ref o2), (3, .int v3), (4, .int v4), (5, .int v5)]), W p l e rm_Sets_weigh s m args below meth c H locs 0 0 (MQ below (zQv (dC, dI) cy (wd_Sets_weigh cy o0 a0 (zI y) (zL y) (zA y 8) (zA y 9) (zA y 10) (zA y 12) o1 a1 (zI s1) (zL s1) (zA s1 6) (zA s1 14) o2 a2 (zI s2) (zL s2) (zA s2 3)) A) args s 0 0 A) (F0 m 11 ls [])) (hA : ∀ q, s.heap.size ≤ q → A q) {H : Heap} {locs : List Loc} (hP : va_P (dC, dI) vwCl (wd_Sets_weigh cy o0 a0 (zI s0) (zL s0) (zA s0 8) (zA s0 9) (zA s0 10) (zA s0 12) o1 a1 (zI s1) (zL s1) (zA s1 6) (zA s1 14) o2 a2 (zI s2) (zL s2) (zA s2 3)) H) (hD : va_D A (wd_Sets_weigh cy o0 a0 (zI s0) (zL s0) (zA s0 8) (zA s0 9) (zA s0 10) (zA s0 12) o1 a1 (zI s1) (zL s1) (zA s1 6) (zA s1 14) o2 a2 (zI s2) (zL s2) (zA s2 3))) (hS : va_S A s.heap H locs) (hf : Sets_weigh_b11 N kh11 s0 s1 s2 v3 v4 v5 = some y) (ls : Array Slot) (hl : lv_has ls 8 [(0, .ref o0), (1, .ref o1), (2, .ref o2), (3, .int v3), (4, .int v4), (5, .int v5)]) : W p l e rm_Sets_weigh s m args below meth c H locs 0 0 (MQ below (zQv (dC, dI) cy (wd_Sets_weigh cy o0 a0 (zI y) (zL y) (zA y 8) (zA y 9) (zA y 10) (zA y 12) o1 a1 (zI s1) (zL s1) (zA s1 6) (zA s1 14) o2 a2 (zI s2) (zL s2) (zA s2 3)) A) args s 0 0 A) (F0 m 11 ls []) := by
  obtain ⟨hx, hb, hr, hml, hown, hT, hk, hK⟩ := id C0
  refine lv_iload hx hb dX7_weigh_11 (lv_at hl 5 rfl) ?_
  refine lv_aload_n hx hb dX7_weigh_13 rfl (lv_at hl 0 rfl) ?_
  refine zget (v := .int (zI s0 7)) hx hb hown hT hK hP inX7 rfl smX7 0 rfl 7 (by decide) tb_293 rfl dX7_weigh_14 ?_
  refine lv_icmp_ge (tgt := 93) hx hb dX7_weigh_17 (by decide) (fun hb_1 => ?_) (fun hb_1 => ?_)
  · have hf := zif_t hb_1 hf
    cases hf
    exact zewv hx hb hr hk hK hP hD hS dX7_weigh_93
  · have hf := zif_f hb_1 hf
    refine lv_iconst (v := 0) hx hb dX7_weigh_20 (by decide) ?_
    refine lv_istore (lv' := [(6, .int 0), (0, .ref o0), (1, .ref o1), (2, .ref o2), (3, .int v3), (4, .int v4), (5, .int v5)]) hx hb dX7_weigh_21 hl (by decide) rfl (fun ls hl => ?_)
    exact k_Sets_weigh_h23 C0 s1 s2 v3 v4 v5 hk11 hA N s0 0 hP hD hS hf _ (lv_sub hl [1, 2, 3, 4, 5, 6, 0] rfl)
set_option maxHeartbeats 4000000 in
set_option maxRecDepth 100000 in
theorem k_Sets_weigh_h11 {p : Program} {l : Launch} {e : Env} {s : State} {m : MethodId} {args : Array Value} {below : List Frame} {meth : Method} {c : Code} {dC : Nat → ClassId} {dI : Nat → Nat → Nat} {cy : Nat → ClassId} {A : Nat → Prop} {o0 : Nat} {a0 : Nat → Nat} {o1 : Nat} {a1 : Nat → Nat} {o2 : Nat} {a2 : Nat → Nat} {N : Nat} {y : zSt} (C0 : zCx p s m args meth c cX7_weigh 8 none RX7 (dC, dI) cy) (s1 : zSt) (s2 : zSt) (v3 : Int32) (v4 : Int32) (hA : ∀ q, s.heap.size ≤ q → A q) : ∀ (n : Nat) (s0 : zSt) (v5 : Int32) {H : Heap} {locs : List Loc} (hP : va_P (dC, dI) vwCl (wd_Sets_weigh cy o0 a0 (zI s0) (zL s0) (zA s0 8) (zA s0 9) (zA s0 10) (zA s0 12) o1 a1 (zI s1) (zL s1) (zA s1 6) (zA s1 14) o2 a2 (zI s2) (zL s2) (zA s2 3)) H) (hD : va_D A (wd_Sets_weigh cy o0 a0 (zI s0) (zL s0) (zA s0 8) (zA s0 9) (zA s0 10) (zA s0 12) o1 a1 (zI s1) (zL s1) (zA s1 6) (zA s1 14) o2 a2 (zI s2) (zL s2) (zA s2 3))) (hS : va_S A s.heap H locs) (hf : Sets_weigh_h11 N s1 s2 v3 v4 n s0 v5 = some y) (ls : Array Slot) (hl : lv_has ls 8 [(0, .ref o0), (1, .ref o1), (2, .ref o2), (3, .int v3), (4, .int v4), (5, .int v5)]), W p l e rm_Sets_weigh s m args below meth c H locs 0 0 (MQ below (zQv (dC, dI) cy (wd_Sets_weigh cy o0 a0 (zI y) (zL y) (zA y 8) (zA y 9) (zA y 10) (zA y 12) o1 a1 (zI s1) (zL s1) (zA s1 6) (zA s1 14) o2 a2 (zI s2) (zL s2) (zA s2 3)) A) args s 0 0 A) (F0 m 11 ls []) := by
  intro n
  induction n with
  | zero => intro s0 v5 H locs hP hD hS hf; cases hf
  | succ n ih =>
    intro s0 v5 H locs hP hD hS hf ls hl
    have hf : Sets_weigh_b11 N (Sets_weigh_h11 N s1 s2 v3 v4 n) s0 s1 s2 v3 v4 v5 = some y := hf
    exact k_Sets_weigh_b11 C0 s0 s1 s2 v3 v4 v5 (fun s0 v5 _ _ hP hD hS hf ls hl => ih s0 v5 hP hD hS hf ls hl) hA hP hD hS hf ls hl
set_option maxHeartbeats 4000000 in
set_option maxRecDepth 100000 in
theorem k_Sets_weigh_b0 {p : Program} {l : Launch} {e : Env} {s : State} {m : MethodId} {args : Array Value} {below : List Frame} {meth : Method} {c : Code} {dC : Nat → ClassId} {dI : Nat → Nat → Nat} {cy : Nat → ClassId} {A : Nat → Prop} {o0 : Nat} {a0 : Nat → Nat} {o1 : Nat} {a1 : Nat → Nat} {o2 : Nat} {a2 : Nat → Nat} {N : Nat} {y : zSt} (C0 : zCx p s m args meth c cX7_weigh 8 none RX7 (dC, dI) cy) (s0 : zSt) (s1 : zSt) (s2 : zSt) (v3 : Int32) (v4 : Int32) (hA : ∀ q, s.heap.size ≤ q → A q) {H : Heap} {locs : List Loc} (hP : va_P (dC, dI) vwCl (wd_Sets_weigh cy o0 a0 (zI s0) (zL s0) (zA s0 8) (zA s0 9) (zA s0 10) (zA s0 12) o1 a1 (zI s1) (zL s1) (zA s1 6) (zA s1 14) o2 a2 (zI s2) (zL s2) (zA s2 3)) H) (hD : va_D A (wd_Sets_weigh cy o0 a0 (zI s0) (zL s0) (zA s0 8) (zA s0 9) (zA s0 10) (zA s0 12) o1 a1 (zI s1) (zL s1) (zA s1 6) (zA s1 14) o2 a2 (zI s2) (zL s2) (zA s2 3))) (hS : va_S A s.heap H locs) (hf : Sets_weigh_b0 N s0 s1 s2 v3 v4 = some y) (ls : Array Slot) (hl : lv_has ls 8 [(0, .ref o0), (1, .ref o1), (2, .ref o2), (3, .int v3), (4, .int v4)]) : W p l e rm_Sets_weigh s m args below meth c H locs 0 0 (MQ below (zQv (dC, dI) cy (wd_Sets_weigh cy o0 a0 (zI y) (zL y) (zA y 8) (zA y 9) (zA y 10) (zA y 12) o1 a1 (zI s1) (zL s1) (zA s1 6) (zA s1 14) o2 a2 (zI s2) (zL s2) (zA s2 3)) A) args s 0 0 A) (F0 m 0 ls []) := by
  obtain ⟨hx, hb, hr, hml, hown, hT, hk, hK⟩ := id C0
  refine lv_aload_n hx hb dX7_weigh_0 rfl (lv_at hl 0 rfl) ?_
  refine zget (v := .ref (a0 12)) hx hb hown hT hK hP inX7 rfl smX7 0 rfl 12 (by decide) tb_298 rfl dX7_weigh_1 ?_
  refine lv_iconst (v := 0) hx hb dX7_weigh_4 (by decide) ?_
  obtain ⟨z1, hc2, hf⟩ := zbd_some hf
  refine zwv (wr := [(o0, .inr (7, fs_Sets a0 (zI s0) (zL s0))), (a0 8, .inl (cy 0, 11, .inl (zA s0 8))), (a0 9, .inl (cy 0, 11, .inl (zA s0 9))), (a0 10, .inl (cy 0, 44, .inl (zA s0 10))), (o1, .inr (9, fs_Valley a1 (zI s1) (zL s1))), (a1 6, .inl (cy 0, 11, .inl (zA s1 6))), (a1 14, .inl (cy 0, 4, .inl (zA s1 14))), (o2, .inr (0, fs_Bounds a2 (zI s2) (zL s2))), (a2 3, .inl (cy 0, 4, .inl (zA s2 3)))]) (ws' := (wd_Sets_weigh cy o0 a0 (zI s0) (zL s0) (zA s0 8) (zA s0 9) (zA s0 10) z1 o1 a1 (zI s1) (zL s1) (zA s1 6) (zA s1 14) o2 a2 (zI s2) (zL s2) (zA s2 3))) (zS (As := [.ref (a0 12), .int 0]) hx hb hml hown hT hl.1 (c_Arrays_fill (a0 12) 48 (zA s0 12) 0 hc2) zY_Arrays_fill tb_793 (zpSw hK hP hD [4] (by decide) rfl rfl) rm_ok_Sets_weigh_Arrays_fill rfl rfl (Nat.le_of_ble_eq_true rfl) dX7_weigh_5 ⟨Nat.zero_le _, Nat.zero_le _⟩) hP hD hS hA [4] [0, 1, 2, 3, 5, 6, 7, 8, 9] [0, 1, 2, 3, 9, 4, 5, 6, 7, 8] rfl rfl (by decide) (by decide) (by decide) rfl rfl (fun H locs hP hD hS => ?_)
  refine lv_iconst (v := 0) hx hb dX7_weigh_8 (by decide) ?_
  refine lv_istore (lv' := [(5, .int 0), (0, .ref o0), (1, .ref o1), (2, .ref o2), (3, .int v3), (4, .int v4)]) hx hb dX7_weigh_9 hl (by decide) rfl (fun ls hl => ?_)
  exact k_Sets_weigh_h11 C0 s1 s2 v3 v4  hA N (zsA s0 12 z1) 0 hP hD hS hf _ (lv_sub hl [1, 2, 3, 4, 5, 0] rfl)
set_option maxHeartbeats 4000000 in
set_option maxRecDepth 100000 in
theorem c_Sets_weigh {l : Launch} {dC : Nat → ClassId} {dI : Nat → Nat → Nat} {cy : Nat → ClassId} {sz : Nat} {N : Nat} (o0 : Nat) (a0 : Nat → Nat) (s0 : zSt) (o1 : Nat) (a1 : Nat → Nat) (s1 : zSt) (o2 : Nat) (a2 : Nat → Nat) (s2 : zSt) (v3 : Int32) (v4 : Int32) {y : zSt} (hf : Sets_weigh N s0 s1 s2 v3 v4 = some y) : Met l yX7_weigh (.code yX7_weigh cX7_weigh 8 none :: zt) rm_Sets_weigh (va_Pc [.ref o0, .ref o1, .ref o2, .int v3, .int v4] (zPre (dC, dI) cy (wd_Sets_weigh cy o0 a0 (zI s0) (zL s0) (zA s0 8) (zA s0 9) (zA s0 10) (zA s0 12) o1 a1 (zI s1) (zL s1) (zA s1 6) (zA s1 14) o2 a2 (zI s2) (zL s2) (zA s2 3)) sz)) (zQv (dC, dI) cy (wd_Sets_weigh cy o0 a0 (zI y) (zL y) (zA y 8) (zA y 9) (zA y 10) (zA y 12) o1 a1 (zI s1) (zL s1) (zA s1 6) (zA s1 14) o2 a2 (zI s2) (zL s2) (zA s2 3)) (va_A (wd_Sets_weigh cy o0 a0 (zI s0) (zL s0) (zA s0 8) (zA s0 9) (zA s0 10) (zA s0 12) o1 a1 (zI s1) (zL s1) (zA s1 6) (zA s1 14) o2 a2 (zI s2) (zL s2) (zA s2 3)) sz)) 0 0 (va_A (wd_Sets_weigh cy o0 a0 (zI s0) (zL s0) (zA s0 8) (zA s0 9) (zA s0 10) (zA s0 12) o1 a1 (zI s1) (zL s1) (zA s1 6) (zA s1 14) o2 a2 (zI s2) (zL s2) (zA s2 3)) sz) :=
  zentW (Qw := fun A => (zQv (dC, dI) cy (wd_Sets_weigh cy o0 a0 (zI y) (zL y) (zA y 8) (zA y 9) (zA y 10) (zA y 12) o1 a1 (zI s1) (zL s1) (zA s1 6) (zA s1 14) o2 a2 (zI s2) (zL s2) (zA s2 3)) A)) (by decide +kernel) (Nat.le_of_ble_eq_true rfl) (fun p e s m below meth c A C0 hA hP hD hS ls hl => k_Sets_weigh_b0 C0 s0 s1 s2 v3 v4 hA hP hD hS hf ls hl)
def wd_Sets_anyCanBe (cy : Nat → ClassId) (o0 : Nat) (a0 : Nat → Nat) (g0 : Nat → Int32) (h0 : Nat → Int64) (x0_11 : Nat → Int32) (x0_12 : Nat → Int32) (o1 : Nat) (a1 : Nat → Nat) (g1 : Nat → Int32) (h1 : Nat → Int64) (x1_1 : Nat → Int32) (x1_3 : Nat → Int32) (x1_4 : Nat → Int32) (x1_5 : Nat → Int32) : va_W := [(o0, .inr (7, fs_Sets a0 g0 h0)), (a0 11, .inl (cy 0, 48, .inl x0_11)), (a0 12, .inl (cy 0, 48, .inl x0_12)), (o1, .inr (0, fs_Bounds a1 g1 h1)), (a1 1, .inl (cy 0, 4, .inl x1_1)), (a1 3, .inl (cy 0, 4, .inl x1_3)), (a1 4, .inl (cy 0, 48, .inl x1_4)), (a1 5, .inl (cy 0, 48, .inl x1_5))]
def rm_Sets_anyCanBe : Room := { frames := 3, cells := 0, slots := 0, locals := 87 }
theorem rm_ok_Sets_anyCanBe_Bounds_canBe : rm_Bounds_canBe.cells = 0 ∧ rm_Bounds_canBe.slots = 0 ∧ rm_Bounds_canBe.frames + 1 ≤ rm_Sets_anyCanBe.frames ∧ 8 + (6 + 11) + rm_Bounds_canBe.locals ≤ rm_Sets_anyCanBe.locals := by decide
set_option maxHeartbeats 4000000 in
set_option maxRecDepth 100000 in
theorem k_Sets_anyCanBe_b2 {p : Program} {l : Launch} {e : Env} {s : State} {m : MethodId} {args : Array Value} {below : List Frame} {meth : Method} {c : Code} {dC : Nat → ClassId} {dI : Nat → Nat → Nat} {cy : Nat → ClassId} {o0 : Nat} {a0 : Nat → Nat} {o1 : Nat} {a1 : Nat → Nat} {N : Nat} {kh2 : Int32 → Option (Int32)} {y : Int32} (C0 : zCx p s m args meth c cX7_anyCanBe 3 (some .boolean) RX7 (dC, dI) cy) (s0 : zSt) (s1 : zSt) (v2 : Int32) (hk2 : ∀ (v2 : Int32) (_ : kh2 v2 = some y) (ls : Array Slot) (_ : lv_has ls 3 [(0, .ref o0), (1, .ref o1), (2, .int v2)]), W p l e rm_Sets_anyCanBe s m args below meth c s.heap [] 0 0 (MQ below (zSi y) args s 0 0 (fun _ => False)) (F0 m 2 ls [])) (hP : va_P (dC, dI) vwCl (wd_Sets_anyCanBe cy o0 a0 (zI s0) (zL s0) (zA s0 11) (zA s0 12) o1 a1 (zI s1) (zL s1) (zA s1 1) (zA s1 3) (zA s1 4) (zA s1 5)) s.heap) (hf : Sets_anyCanBe_b2 N kh2 s0 s1 v2 = some y) (ls : Array Slot) (hl : lv_has ls 3 [(0, .ref o0), (1, .ref o1), (2, .int v2)]) : W p l e rm_Sets_anyCanBe s m args below meth c s.heap [] 0 0 (MQ below (zSi y) args s 0 0 (fun _ => False)) (F0 m 2 ls []) := by
  obtain ⟨hx, hb, hr, hml, hown, hT, hk, hK⟩ := id C0
  refine lv_iload_n hx hb dX7_anyCanBe_2 rfl (lv_at hl 2 rfl) ?_
  refine lv_bipush (v := 12) hx hb dX7_anyCanBe_3 (by decide) ?_
  refine lv_icmp_ge (tgt := 32) hx hb dX7_anyCanBe_5 (by decide) (fun hb_1 => ?_) (fun hb_1 => ?_)
  · have hf := zif_t hb_1 hf
    refine lv_iconst (v := 1) hx hb dX7_anyCanBe_32 (by decide) ?_
    cases hf
    exact zerz hx hb hr hk (Or.inr rfl) dX7_anyCanBe_33
  · have hf := zif_f hb_1 hf
    refine lv_aload_n hx hb dX7_anyCanBe_8 rfl (lv_at hl 1 rfl) ?_
    refine lv_iload_n hx hb dX7_anyCanBe_9 rfl (lv_at hl 2 rfl) ?_
    refine lv_aload_n hx hb dX7_anyCanBe_10 rfl (lv_at hl 0 rfl) ?_
    refine zget (v := .ref (a0 11)) hx hb hown hT hK hP inX7 rfl smX7 0 rfl 11 (by decide) tb_297 rfl dX7_anyCanBe_11 ?_
    refine lv_aload_n hx hb dX7_anyCanBe_14 rfl (lv_at hl 0 rfl) ?_
    refine zget (v := .ref (a0 12)) hx hb hown hT hK hP inX7 rfl smX7 0 rfl 12 (by decide) tb_298 rfl dX7_anyCanBe_15 ?_
    obtain ⟨z2, hc3, hf⟩ := zbd_some hf
    refine zri (zV (As := [.int v2, .ref (a0 11), .ref (a0 12)]) hx hb hml hown hT hl.1 (c_Bounds_canBe o1 a1 s1 (a0 11) 48 (zA s0 11) (a0 12) 48 (zA s0 12) v2 hc3) zY_Bounds_canBe tb_807 (zpR hK hP [3, 4, 5, 6, 7, 1, 2] rfl 0 0 rfl rfl rfl) rm_ok_Sets_anyCanBe_Bounds_canBe rfl rfl (Nat.le_of_ble_eq_true rfl) dX7_anyCanBe_18 ⟨Nat.zero_le _, Nat.zero_le _⟩) ?_
    refine lv_if_ne (tgt := 26) hx hb dX7_anyCanBe_21 (by decide) (fun hb_4 => ?_) (fun hb_4 => ?_)
    · have hf := zif_f hb_4 hf
      refine lv_iinc (v := v2 + 1) (lv' := [(2, .int (v2 + 1)), (0, .ref o0), (1, .ref o1)]) hx hb dX7_anyCanBe_26 hl (k := 2) rfl rfl (by decide) rfl (fun ls hl => ?_)
      refine lv_goto (tgt := 2) hx hb dX7_anyCanBe_29 (by decide) ?_
      exact hk2 (v2 + 1) hf _ (lv_sub hl [1, 2, 0] rfl)
    · have hf := zif_t hb_4 hf
      refine lv_iconst (v := 0) hx hb dX7_anyCanBe_24 (by decide) ?_
      cases hf
      exact zerz hx hb hr hk (Or.inl rfl) dX7_anyCanBe_25
set_option maxHeartbeats 4000000 in
set_option maxRecDepth 100000 in
theorem k_Sets_anyCanBe_h2 {p : Program} {l : Launch} {e : Env} {s : State} {m : MethodId} {args : Array Value} {below : List Frame} {meth : Method} {c : Code} {dC : Nat → ClassId} {dI : Nat → Nat → Nat} {cy : Nat → ClassId} {o0 : Nat} {a0 : Nat → Nat} {o1 : Nat} {a1 : Nat → Nat} {N : Nat} {y : Int32} (C0 : zCx p s m args meth c cX7_anyCanBe 3 (some .boolean) RX7 (dC, dI) cy) (s0 : zSt) (s1 : zSt) (hP : va_P (dC, dI) vwCl (wd_Sets_anyCanBe cy o0 a0 (zI s0) (zL s0) (zA s0 11) (zA s0 12) o1 a1 (zI s1) (zL s1) (zA s1 1) (zA s1 3) (zA s1 4) (zA s1 5)) s.heap) : ∀ (n : Nat) (v2 : Int32) (hf : Sets_anyCanBe_h2 N s0 s1 n v2 = some y) (ls : Array Slot) (hl : lv_has ls 3 [(0, .ref o0), (1, .ref o1), (2, .int v2)]), W p l e rm_Sets_anyCanBe s m args below meth c s.heap [] 0 0 (MQ below (zSi y) args s 0 0 (fun _ => False)) (F0 m 2 ls []) := by
  intro n
  induction n with
  | zero => intro v2 hf; cases hf
  | succ n ih =>
    intro v2 hf ls hl
    have hf : Sets_anyCanBe_b2 N (Sets_anyCanBe_h2 N s0 s1 n) s0 s1 v2 = some y := hf
    exact k_Sets_anyCanBe_b2 C0 s0 s1 v2 (fun v2 hf ls hl => ih v2 hf ls hl) hP hf ls hl
set_option maxHeartbeats 4000000 in
set_option maxRecDepth 100000 in
theorem k_Sets_anyCanBe_b0 {p : Program} {l : Launch} {e : Env} {s : State} {m : MethodId} {args : Array Value} {below : List Frame} {meth : Method} {c : Code} {dC : Nat → ClassId} {dI : Nat → Nat → Nat} {cy : Nat → ClassId} {o0 : Nat} {a0 : Nat → Nat} {o1 : Nat} {a1 : Nat → Nat} {N : Nat} {y : Int32} (C0 : zCx p s m args meth c cX7_anyCanBe 3 (some .boolean) RX7 (dC, dI) cy) (s0 : zSt) (s1 : zSt) (hP : va_P (dC, dI) vwCl (wd_Sets_anyCanBe cy o0 a0 (zI s0) (zL s0) (zA s0 11) (zA s0 12) o1 a1 (zI s1) (zL s1) (zA s1 1) (zA s1 3) (zA s1 4) (zA s1 5)) s.heap) (hf : Sets_anyCanBe_b0 N s0 s1 = some y) (ls : Array Slot) (hl : lv_has ls 3 [(0, .ref o0), (1, .ref o1)]) : W p l e rm_Sets_anyCanBe s m args below meth c s.heap [] 0 0 (MQ below (zSi y) args s 0 0 (fun _ => False)) (F0 m 0 ls []) := by
  obtain ⟨hx, hb, hr, hml, hown, hT, hk, hK⟩ := id C0
  refine lv_iconst (v := 0) hx hb dX7_anyCanBe_0 (by decide) ?_
  refine lv_istore_n (lv' := [(2, .int 0), (0, .ref o0), (1, .ref o1)]) hx hb dX7_anyCanBe_1 rfl hl (by decide) rfl (fun ls hl => ?_)
  exact k_Sets_anyCanBe_h2 C0 s0 s1  hP N 0 hf _ (lv_sub hl [1, 2, 0] rfl)
set_option maxHeartbeats 4000000 in
set_option maxRecDepth 100000 in
theorem c_Sets_anyCanBe {l : Launch} {dC : Nat → ClassId} {dI : Nat → Nat → Nat} {cy : Nat → ClassId} {N : Nat} (o0 : Nat) (a0 : Nat → Nat) (s0 : zSt) (o1 : Nat) (a1 : Nat → Nat) (s1 : zSt) {y : Int32} (hf : Sets_anyCanBe N s0 s1 = some y) : Met l yX7_anyCanBe (.code yX7_anyCanBe cX7_anyCanBe 3 (some .boolean) :: zt) rm_Sets_anyCanBe (va_Pc [.ref o0, .ref o1] (zRd (dC, dI) cy (wd_Sets_anyCanBe cy o0 a0 (zI s0) (zL s0) (zA s0 11) (zA s0 12) o1 a1 (zI s1) (zL s1) (zA s1 1) (zA s1 3) (zA s1 4) (zA s1 5)))) (zSi y) 0 0 (fun _ => False) :=
  zentR (by decide +kernel) (Nat.le_of_ble_eq_true rfl) (fun p e s m below meth c C0 hP ls hl => k_Sets_anyCanBe_b0 C0 s0 s1 hP hf ls hl)
def wd_Sets_allSeen (cy : Nat → ClassId) (o0 : Nat) (a0 : Nat → Nat) (g0 : Nat → Int32) (h0 : Nat → Int64) (x0_13 : Nat → Int32) : va_W := [(o0, .inr (7, fs_Sets a0 g0 h0)), (a0 13, .inl (cy 0, 64, .inl x0_13))]
def rm_Sets_allSeen : Room := { frames := 1, cells := 0, slots := 0, locals := 40 }
set_option maxHeartbeats 4000000 in
set_option maxRecDepth 100000 in
theorem k_Sets_allSeen_b55 {p : Program} {l : Launch} {e : Env} {s : State} {m : MethodId} {args : Array Value} {below : List Frame} {meth : Method} {c : Code} {dC : Nat → ClassId} {dI : Nat → Nat → Nat} {cy : Nat → ClassId} {o0 : Nat} {a0 : Nat → Nat} {N : Nat} {y : Int32} (C0 : zCx p s m args meth c cX7_allSeen 6 (some .boolean) RX7 (dC, dI) cy) (s0 : zSt) (v4 : Int32) (v5 : Int32) (hP : va_P (dC, dI) vwCl (wd_Sets_allSeen cy o0 a0 (zI s0) (zL s0) (zA s0 13)) s.heap) (hf : Sets_allSeen_b55 N s0 v4 v5 = some y) (ls : Array Slot) (hl : lv_has ls 6 [(0, .ref o0), (4, .int v4), (5, .int v5)]) : W p l e rm_Sets_allSeen s m args below meth c s.heap [] 0 0 (MQ below (zSi y) args s 0 0 (fun _ => False)) (F0 m 55 ls []) := by
  obtain ⟨hx, hb, hr, hml, hown, hT, hk, hK⟩ := id C0
  refine lv_aload_n hx hb dX7_allSeen_55 rfl (lv_at hl 0 rfl) ?_
  refine zget (v := .ref (a0 13)) hx hb hown hT hK hP inX7 rfl smX7 0 rfl 13 (by decide) tb_299 rfl dX7_allSeen_56 ?_
  refine lv_iload hx hb dX7_allSeen_59 (lv_at hl 1 rfl) ?_
  refine lv_bipush (v := 32) hx hb dX7_allSeen_61 (by decide) ?_
  refine lv_idiv hx hb dX7_allSeen_63 (by decide) ?_
  obtain ⟨hi1, hf⟩ := zck_some hf
  refine va_iald hx hb hK.1 hP 1 0 rfl rfl hi1 dX7_allSeen_64 ?_
  refine lv_iload hx hb dX7_allSeen_65 (lv_at hl 2 rfl) ?_
  refine lv_iand hx hb dX7_allSeen_67 ?_
  refine lv_iload hx hb dX7_allSeen_68 (lv_at hl 2 rfl) ?_
  refine lv_icmp_ne (tgt := 77) hx hb dX7_allSeen_70 (by decide) (fun hb_2 => ?_) (fun hb_2 => ?_)
  · have hf := zif_f hb_2 hf
    refine lv_iconst (v := 0) hx hb dX7_allSeen_77 (by decide) ?_
    cases hf
    exact zerz hx hb hr hk (Or.inl rfl) dX7_allSeen_78
  · have hf := zif_t hb_2 hf
    refine lv_iconst (v := 1) hx hb dX7_allSeen_73 (by decide) ?_
    refine lv_goto (tgt := 78) hx hb dX7_allSeen_74 (by decide) ?_
    cases hf
    exact zerz hx hb hr hk (Or.inr rfl) dX7_allSeen_78
set_option maxHeartbeats 4000000 in
set_option maxRecDepth 100000 in
theorem k_Sets_allSeen_b0 {p : Program} {l : Launch} {e : Env} {s : State} {m : MethodId} {args : Array Value} {below : List Frame} {meth : Method} {c : Code} {dC : Nat → ClassId} {dI : Nat → Nat → Nat} {cy : Nat → ClassId} {o0 : Nat} {a0 : Nat → Nat} {N : Nat} {y : Int32} (C0 : zCx p s m args meth c cX7_allSeen 6 (some .boolean) RX7 (dC, dI) cy) (s0 : zSt) (v1 : Int32) (v2 : Int32) (hP : va_P (dC, dI) vwCl (wd_Sets_allSeen cy o0 a0 (zI s0) (zL s0) (zA s0 13)) s.heap) (hf : Sets_allSeen_b0 N s0 v1 v2 = some y) (ls : Array Slot) (hl : lv_has ls 6 [(0, .ref o0), (1, .int v1), (2, .int v2)]) : W p l e rm_Sets_allSeen s m args below meth c s.heap [] 0 0 (MQ below (zSi y) args s 0 0 (fun _ => False)) (F0 m 0 ls []) := by
  obtain ⟨hx, hb, hr, hml, hown, hT, hk, hK⟩ := id C0
  refine lv_aload_n hx hb dX7_allSeen_0 rfl (lv_at hl 0 rfl) ?_
  refine zget (v := .int (zI s0 7)) hx hb hown hT hK hP inX7 rfl smX7 0 rfl 7 (by decide) tb_293 rfl dX7_allSeen_1 ?_
  refine lv_iload_n hx hb dX7_allSeen_4 rfl (lv_at hl 1 rfl) ?_
  refine lv_isub hx hb dX7_allSeen_5 ?_
  refine lv_istore_n (lv' := [(3, .int ((zI s0 7) - v1)), (0, .ref o0), (1, .int v1), (2, .int v2)]) hx hb dX7_allSeen_6 rfl hl (by decide) rfl (fun ls hl => ?_)
  refine lv_iconst (v := 1) hx hb dX7_allSeen_7 (by decide) ?_
  refine lv_iload_n hx hb dX7_allSeen_8 rfl (lv_at hl 0 rfl) ?_
  refine lv_ishl hx hb dX7_allSeen_9 ?_
  refine lv_bipush (v := 32) hx hb dX7_allSeen_10 (by decide) ?_
  refine lv_icmp_le (tgt := 34) hx hb dX7_allSeen_12 (by decide) (fun hb_1 => ?_) (fun hb_1 => ?_)
  · have hf := zif_t hb_1 hf
    refine lv_iload_n hx hb dX7_allSeen_34 rfl (lv_at hl 3 rfl) ?_
    refine lv_iload_n hx hb dX7_allSeen_35 rfl (lv_at hl 0 rfl) ?_
    refine lv_ishl hx hb dX7_allSeen_36 ?_
    refine lv_istore (lv' := [(4, .int (v2 <<< (((zI s0 7) - v1) &&& 31))), (3, .int ((zI s0 7) - v1)), (0, .ref o0), (1, .int v1), (2, .int v2)]) hx hb dX7_allSeen_37 hl (by decide) rfl (fun ls hl => ?_)
    refine lv_iconst (v := (-1)) hx hb dX7_allSeen_39 (by decide) ?_
    refine lv_bipush (v := 32) hx hb dX7_allSeen_40 (by decide) ?_
    refine lv_iconst (v := 1) hx hb dX7_allSeen_42 (by decide) ?_
    refine lv_iload_n hx hb dX7_allSeen_43 rfl (lv_at hl 1 rfl) ?_
    refine lv_ishl hx hb dX7_allSeen_44 ?_
    refine lv_isub hx hb dX7_allSeen_45 ?_
    refine lv_iushr (v := (Int32.toUInt32 (-1) >>> (Int32.toUInt32 (32 - ((1 : Int32) <<< (((zI s0 7) - v1) &&& 31))) &&& Int32.toUInt32 31)).toInt32) hx hb dX7_allSeen_46 rfl ?_
    refine lv_iload hx hb dX7_allSeen_47 (lv_at hl 0 rfl) ?_
    refine lv_bipush (v := 32) hx hb dX7_allSeen_49 (by decide) ?_
    refine lv_irem hx hb dX7_allSeen_51 (by decide) ?_
    refine lv_ishl hx hb dX7_allSeen_52 ?_
    refine lv_istore (lv' := [(5, .int (((Int32.toUInt32 (-1) >>> (Int32.toUInt32 (32 - ((1 : Int32) <<< (((zI s0 7) - v1) &&& 31))) &&& Int32.toUInt32 31)).toInt32) <<< (((v2 <<< (((zI s0 7) - v1) &&& 31)) - (v2 <<< (((zI s0 7) - v1) &&& 31)) / 32 * 32) &&& 31))), (4, .int (v2 <<< (((zI s0 7) - v1) &&& 31))), (3, .int ((zI s0 7) - v1)), (0, .ref o0), (1, .int v1), (2, .int v2)]) hx hb dX7_allSeen_53 hl (by decide) rfl (fun ls hl => ?_)
    exact k_Sets_allSeen_b55 C0 s0 (v2 <<< (((zI s0 7) - v1) &&& 31)) (((Int32.toUInt32 (-1) >>> (Int32.toUInt32 (32 - ((1 : Int32) <<< (((zI s0 7) - v1) &&& 31))) &&& Int32.toUInt32 31)).toInt32) <<< (((v2 <<< (((zI s0 7) - v1) &&& 31)) - (v2 <<< (((zI s0 7) - v1) &&& 31)) / 32 * 32) &&& 31))  hP hf _ (lv_sub hl [3, 1, 0] rfl)
  · have hf := zif_f hb_1 hf
    refine lv_aload_n hx hb dX7_allSeen_15 rfl (lv_at hl 1 rfl) ?_
    refine zget (v := .int (zI s0 0)) hx hb hown hT hK hP inX7 rfl smX7 0 rfl 0 (by decide) tb_280 rfl dX7_allSeen_16 ?_
    refine lv_iconst (v := 1) hx hb dX7_allSeen_19 (by decide) ?_
    refine lv_aload_n hx hb dX7_allSeen_20 rfl (lv_at hl 1 rfl) ?_
    refine zget (v := .int (zI s0 7)) hx hb hown hT hK hP inX7 rfl smX7 0 rfl 7 (by decide) tb_293 rfl dX7_allSeen_21 ?_
    refine lv_ishl hx hb dX7_allSeen_24 ?_
    refine lv_icmp_ne (tgt := 32) hx hb dX7_allSeen_25 (by decide) (fun hb_2 => ?_) (fun hb_2 => ?_)
    · have hf := zif_f hb_2 hf
      refine lv_iconst (v := 0) hx hb dX7_allSeen_32 (by decide) ?_
      cases hf
      exact zerz hx hb hr hk (Or.inl rfl) dX7_allSeen_33
    · have hf := zif_t hb_2 hf
      refine lv_iconst (v := 1) hx hb dX7_allSeen_28 (by decide) ?_
      refine lv_goto (tgt := 33) hx hb dX7_allSeen_29 (by decide) ?_
      cases hf
      exact zerz hx hb hr hk (Or.inr rfl) dX7_allSeen_33
set_option maxHeartbeats 4000000 in
set_option maxRecDepth 100000 in
theorem c_Sets_allSeen {l : Launch} {dC : Nat → ClassId} {dI : Nat → Nat → Nat} {cy : Nat → ClassId} {N : Nat} (o0 : Nat) (a0 : Nat → Nat) (s0 : zSt) (v1 : Int32) (v2 : Int32) {y : Int32} (hf : Sets_allSeen N s0 v1 v2 = some y) : Met l yX7_allSeen (.code yX7_allSeen cX7_allSeen 6 (some .boolean) :: zt) rm_Sets_allSeen (va_Pc [.ref o0, .int v1, .int v2] (zRd (dC, dI) cy (wd_Sets_allSeen cy o0 a0 (zI s0) (zL s0) (zA s0 13)))) (zSi y) 0 0 (fun _ => False) :=
  zentR (by decide +kernel) (Nat.le_of_ble_eq_true rfl) (fun p e s m below meth c C0 hP ls hl => k_Sets_allSeen_b0 C0 s0 v1 v2 hP hf ls hl)
def wd_Sets_keep (cy : Nat → ClassId) (o0 : Nat) (a0 : Nat → Nat) (g0 : Nat → Int32) (h0 : Nat → Int64) (x0_13 : Nat → Int32) : va_W := [(o0, .inr (7, fs_Sets a0 g0 h0)), (a0 13, .inl (cy 0, 64, .inl x0_13))]
def rm_Sets_keep : Room := { frames := 1, cells := 0, slots := 0, locals := 40 }
set_option maxHeartbeats 4000000 in
set_option maxRecDepth 100000 in
theorem k_Sets_keep_b0 {p : Program} {l : Launch} {e : Env} {s : State} {m : MethodId} {args : Array Value} {below : List Frame} {meth : Method} {c : Code} {dC : Nat → ClassId} {dI : Nat → Nat → Nat} {cy : Nat → ClassId} {A : Nat → Prop} {o0 : Nat} {a0 : Nat → Nat} {N : Nat} {y : zSt} (C0 : zCx p s m args meth c cX7_keep 3 none RX7 (dC, dI) cy) (s0 : zSt) (v1 : Int32) (hA : ∀ q, s.heap.size ≤ q → A q) {H : Heap} {locs : List Loc} (hP : va_P (dC, dI) vwCl (wd_Sets_keep cy o0 a0 (zI s0) (zL s0) (zA s0 13)) H) (hD : va_D A (wd_Sets_keep cy o0 a0 (zI s0) (zL s0) (zA s0 13))) (hS : va_S A s.heap H locs) (hf : Sets_keep_b0 N s0 v1 = some y) (ls : Array Slot) (hl : lv_has ls 3 [(0, .ref o0), (1, .int v1)]) : W p l e rm_Sets_keep s m args below meth c H locs 0 0 (MQ below (zQv (dC, dI) cy (wd_Sets_keep cy o0 a0 (zI y) (zL y) (zA y 13)) A) args s 0 0 A) (F0 m 0 ls []) := by
  obtain ⟨hx, hb, hr, hml, hown, hT, hk, hK⟩ := id C0
  refine lv_aload_n hx hb dX7_keep_0 rfl (lv_at hl 0 rfl) ?_
  refine lv_iconst (v := 1) hx hb dX7_keep_1 (by decide) ?_
  refine zput (fs' := fs_Sets a0 (upd (zI s0) 6 1) (zL s0)) (ws' := (wd_Sets_keep cy o0 a0 (upd (zI s0) 6 1) (zL s0) (zA s0 13))) hx hb hown hT hK hP hD hS inX7 rfl smX7 tyX7_ok nmX7 0 rfl 6 (by decide) tb_292 rfl rfl rfl (Nat.le_of_ble_eq_true rfl) rfl rfl dX7_keep_2 (fun H locs hP hD hS => ?_)
  refine lv_iconst (v := 1) hx hb dX7_keep_5 (by decide) ?_
  refine lv_iload_n hx hb dX7_keep_6 rfl (lv_at hl 1 rfl) ?_
  refine lv_bipush (v := 32) hx hb dX7_keep_7 (by decide) ?_
  refine lv_irem hx hb dX7_keep_9 (by decide) ?_
  refine lv_ishl hx hb dX7_keep_10 ?_
  refine lv_istore_n (lv' := [(2, .int ((1 : Int32) <<< ((v1 - v1 / 32 * 32) &&& 31))), (0, .ref o0), (1, .int v1)]) hx hb dX7_keep_11 rfl hl (by decide) rfl (fun ls hl => ?_)
  refine lv_aload_n hx hb dX7_keep_12 rfl (lv_at hl 1 rfl) ?_
  refine zget (v := .ref (a0 13)) hx hb hown hT hK hP inX7 rfl smX7 0 rfl 13 (by decide) tb_299 rfl dX7_keep_13 ?_
  refine lv_iload_n hx hb dX7_keep_16 rfl (lv_at hl 2 rfl) ?_
  refine lv_bipush (v := 32) hx hb dX7_keep_17 (by decide) ?_
  refine lv_idiv hx hb dX7_keep_19 (by decide) ?_
  obtain ⟨hi1, hf⟩ := zck_some hf
  refine va_iald hx hb hK.1 hP 1 0 rfl rfl hi1 dX7_keep_20 ?_
  refine lv_iload_n hx hb dX7_keep_21 rfl (lv_at hl 0 rfl) ?_
  refine lv_iand hx hb dX7_keep_22 ?_
  refine lv_if_ne (tgt := 71) hx hb dX7_keep_23 (by decide) (fun hb_2 => ?_) (fun hb_2 => ?_)
  · have hf := zif_f hb_2 hf
    cases hf
    exact zewv hx hb hr hk hK hP hD hS dX7_keep_71
  · have hf := zif_t hb_2 hf
    refine lv_aload_n hx hb dX7_keep_26 rfl (lv_at hl 1 rfl) ?_
    refine zget (v := .ref (a0 13)) hx hb hown hT hK hP inX7 rfl smX7 0 rfl 13 (by decide) tb_299 rfl dX7_keep_27 ?_
    refine lv_iload_n hx hb dX7_keep_30 rfl (lv_at hl 2 rfl) ?_
    refine lv_bipush (v := 32) hx hb dX7_keep_31 (by decide) ?_
    refine lv_idiv hx hb dX7_keep_33 (by decide) ?_
    refine lv_dup2_11 hx hb dX7_keep_34 rfl rfl ?_
    obtain ⟨hi3, hf⟩ := zck_some hf
    refine va_iald hx hb hK.1 hP 1 0 rfl rfl hi3 dX7_keep_35 ?_
    refine lv_iload_n hx hb dX7_keep_36 rfl (lv_at hl 0 rfl) ?_
    refine lv_ior hx hb dX7_keep_37 ?_
    obtain ⟨hi4, hf⟩ := zck_some hf
    refine zast (ws' := (wd_Sets_keep cy o0 a0 (upd (zI s0) 6 1) (zL s0) (upd (zA s0 13) (Int32.toNatClampNeg (v1 / 32)) (((zA s0 13) (Int32.toNatClampNeg (v1 / 32))) ||| ((1 : Int32) <<< ((v1 - v1 / 32 * 32) &&& 31)))))) hx hb hK hP hD hS 1 0 rfl rfl hi4 rfl dX7_keep_38 (fun H locs hP hD hS => ?_)
    refine lv_aload_n hx hb dX7_keep_39 rfl (lv_at hl 1 rfl) ?_
    refine lv_dup hx hb dX7_keep_40 rfl ?_
    refine zget (v := .int (zI s0 0)) hx hb hown hT hK hP inX7 rfl smX7 0 rfl 0 (by decide) tb_280 rfl dX7_keep_41 ?_
    refine lv_iconst (v := 1) hx hb dX7_keep_44 (by decide) ?_
    refine lv_iadd hx hb dX7_keep_45 ?_
    refine zput (fs' := fs_Sets a0 (upd (upd (zI s0) 6 1) 0 ((zI s0 0) + 1)) (zL s0)) (ws' := (wd_Sets_keep cy o0 a0 (upd (upd (zI s0) 6 1) 0 ((zI s0 0) + 1)) (zL s0) (upd (zA s0 13) (Int32.toNatClampNeg (v1 / 32)) (((zA s0 13) (Int32.toNatClampNeg (v1 / 32))) ||| ((1 : Int32) <<< ((v1 - v1 / 32 * 32) &&& 31)))))) hx hb hown hT hK hP hD hS inX7 rfl smX7 tyX7_ok nmX7 0 rfl 0 (by decide) tb_280 rfl rfl rfl (Nat.le_of_ble_eq_true rfl) rfl rfl dX7_keep_46 (fun H locs hP hD hS => ?_)
    refine lv_aload_n hx hb dX7_keep_49 rfl (lv_at hl 1 rfl) ?_
    refine lv_dup hx hb dX7_keep_50 rfl ?_
    refine zget (v := .int (zI s0 1)) hx hb hown hT hK hP inX7 rfl smX7 0 rfl 1 (by decide) tb_282 rfl dX7_keep_51 ?_
    refine lv_iload_n hx hb dX7_keep_54 rfl (lv_at hl 2 rfl) ?_
    refine lv_iand hx hb dX7_keep_55 ?_
    refine zput (fs' := fs_Sets a0 (upd (upd (upd (zI s0) 6 1) 0 ((zI s0 0) + 1)) 1 ((zI s0 1) &&& v1)) (zL s0)) (ws' := (wd_Sets_keep cy o0 a0 (upd (upd (upd (zI s0) 6 1) 0 ((zI s0 0) + 1)) 1 ((zI s0 1) &&& v1)) (zL s0) (upd (zA s0 13) (Int32.toNatClampNeg (v1 / 32)) (((zA s0 13) (Int32.toNatClampNeg (v1 / 32))) ||| ((1 : Int32) <<< ((v1 - v1 / 32 * 32) &&& 31)))))) hx hb hown hT hK hP hD hS inX7 rfl smX7 tyX7_ok nmX7 0 rfl 1 (by decide) tb_282 rfl rfl rfl (Nat.le_of_ble_eq_true rfl) rfl rfl dX7_keep_56 (fun H locs hP hD hS => ?_)
    refine lv_aload_n hx hb dX7_keep_59 rfl (lv_at hl 1 rfl) ?_
    refine lv_dup hx hb dX7_keep_60 rfl ?_
    refine zget (v := .int (zI s0 2)) hx hb hown hT hK hP inX7 rfl smX7 0 rfl 2 (by decide) tb_284 rfl dX7_keep_61 ?_
    refine lv_iload_n hx hb dX7_keep_64 rfl (lv_at hl 2 rfl) ?_
    refine lv_iconst (v := (-1)) hx hb dX7_keep_65 (by decide) ?_
    refine lv_ixor hx hb dX7_keep_66 ?_
    refine lv_iand hx hb dX7_keep_67 ?_
    refine zput (fs' := fs_Sets a0 (upd (upd (upd (upd (zI s0) 6 1) 0 ((zI s0 0) + 1)) 1 ((zI s0 1) &&& v1)) 2 ((zI s0 2) &&& (v1 ^^^ (-1)))) (zL s0)) (ws' := (wd_Sets_keep cy o0 a0 (upd (upd (upd (upd (zI s0) 6 1) 0 ((zI s0 0) + 1)) 1 ((zI s0 1) &&& v1)) 2 ((zI s0 2) &&& (v1 ^^^ (-1)))) (zL s0) (upd (zA s0 13) (Int32.toNatClampNeg (v1 / 32)) (((zA s0 13) (Int32.toNatClampNeg (v1 / 32))) ||| ((1 : Int32) <<< ((v1 - v1 / 32 * 32) &&& 31)))))) hx hb hown hT hK hP hD hS inX7 rfl smX7 tyX7_ok nmX7 0 rfl 2 (by decide) tb_284 rfl rfl rfl (Nat.le_of_ble_eq_true rfl) rfl rfl dX7_keep_68 (fun H locs hP hD hS => ?_)
    cases hf
    exact zewv hx hb hr hk hK hP hD hS dX7_keep_71
set_option maxHeartbeats 4000000 in
set_option maxRecDepth 100000 in
theorem c_Sets_keep {l : Launch} {dC : Nat → ClassId} {dI : Nat → Nat → Nat} {cy : Nat → ClassId} {sz : Nat} {N : Nat} (o0 : Nat) (a0 : Nat → Nat) (s0 : zSt) (v1 : Int32) {y : zSt} (hf : Sets_keep N s0 v1 = some y) : Met l yX7_keep (.code yX7_keep cX7_keep 3 none :: zt) rm_Sets_keep (va_Pc [.ref o0, .int v1] (zPre (dC, dI) cy (wd_Sets_keep cy o0 a0 (zI s0) (zL s0) (zA s0 13)) sz)) (zQv (dC, dI) cy (wd_Sets_keep cy o0 a0 (zI y) (zL y) (zA y 13)) (va_A (wd_Sets_keep cy o0 a0 (zI s0) (zL s0) (zA s0 13)) sz)) 0 0 (va_A (wd_Sets_keep cy o0 a0 (zI s0) (zL s0) (zA s0 13)) sz) :=
  zentW (Qw := fun A => (zQv (dC, dI) cy (wd_Sets_keep cy o0 a0 (zI y) (zL y) (zA y 13)) A)) (by decide +kernel) (Nat.le_of_ble_eq_true rfl) (fun p e s m below meth c A C0 hA hP hD hS ls hl => k_Sets_keep_b0 C0 s0 v1 hA hP hD hS hf ls hl)
def wd_Sets_choose (cy : Nat → ClassId) (o0 : Nat) (a0 : Nat → Nat) (g0 : Nat → Int32) (h0 : Nat → Int64) (x0_9 : Nat → Int32) (x0_10 : Nat → Int32) (x0_11 : Nat → Int32) (x0_12 : Nat → Int32) (x0_13 : Nat → Int32) (o1 : Nat) (a1 : Nat → Nat) (g1 : Nat → Int32) (h1 : Nat → Int64) (x1_1 : Nat → Int32) (x1_3 : Nat → Int32) (x1_4 : Nat → Int32) (x1_5 : Nat → Int32) : va_W := [(o0, .inr (7, fs_Sets a0 g0 h0)), (a0 9, .inl (cy 0, 11, .inl x0_9)), (a0 10, .inl (cy 0, 44, .inl x0_10)), (a0 11, .inl (cy 0, 48, .inl x0_11)), (a0 12, .inl (cy 0, 48, .inl x0_12)), (a0 13, .inl (cy 0, 64, .inl x0_13)), (o1, .inr (0, fs_Bounds a1 g1 h1)), (a1 1, .inl (cy 0, 4, .inl x1_1)), (a1 3, .inl (cy 0, 4, .inl x1_3)), (a1 4, .inl (cy 0, 48, .inl x1_4)), (a1 5, .inl (cy 0, 48, .inl x1_5))]
def rm_Sets_choose (d : Nat) : Room := { frames := 3 + d, cells := 0, slots := 0, locals := 87 + d * 23 }
theorem rm_ok_Sets_choose_Bounds_canBe {d : Nat} : rm_Bounds_canBe.cells = 0 ∧ rm_Bounds_canBe.slots = 0 ∧ rm_Bounds_canBe.frames + 1 ≤ (rm_Sets_choose (d + 1)).frames ∧ 8 + (6 + 11) + rm_Bounds_canBe.locals ≤ (rm_Sets_choose (d + 1)).locals := ⟨rfl, rfl, by simp only [rm_Sets_choose, rm_Bounds_canBe]; omega, by simp only [rm_Sets_choose, rm_Bounds_canBe]; omega⟩
theorem rm_ok_Sets_choose_Sets_add {d : Nat} : rm_Sets_add.cells = 0 ∧ rm_Sets_add.slots = 0 ∧ rm_Sets_add.frames + 1 ≤ (rm_Sets_choose (d + 1)).frames ∧ 8 + (7 + 11) + rm_Sets_add.locals ≤ (rm_Sets_choose (d + 1)).locals := ⟨rfl, rfl, by simp only [rm_Sets_choose, rm_Sets_add]; omega, by simp only [rm_Sets_choose, rm_Sets_add]; omega⟩
theorem rm_ok_Sets_choose_Sets_allSeen {d : Nat} : rm_Sets_allSeen.cells = 0 ∧ rm_Sets_allSeen.slots = 0 ∧ rm_Sets_allSeen.frames + 1 ≤ (rm_Sets_choose (d + 1)).frames ∧ 8 + (6 + 11) + rm_Sets_allSeen.locals ≤ (rm_Sets_choose (d + 1)).locals := ⟨rfl, rfl, by simp only [rm_Sets_choose, rm_Sets_allSeen]; omega, by simp only [rm_Sets_choose, rm_Sets_allSeen]; omega⟩
theorem rm_ok_Sets_choose_Sets_choose {d : Nat} : (rm_Sets_choose d).cells = 0 ∧ (rm_Sets_choose d).slots = 0 ∧ (rm_Sets_choose d).frames + 1 ≤ (rm_Sets_choose (d + 1)).frames ∧ 8 + (4 + 11) + (rm_Sets_choose d).locals ≤ (rm_Sets_choose (d + 1)).locals := ⟨rfl, rfl, by simp only [rm_Sets_choose, rm_Sets_choose]; omega, by simp only [rm_Sets_choose, rm_Sets_choose]; omega⟩
theorem rm_ok_Sets_choose_Sets_keep {d : Nat} : rm_Sets_keep.cells = 0 ∧ rm_Sets_keep.slots = 0 ∧ rm_Sets_keep.frames + 1 ≤ (rm_Sets_choose (d + 1)).frames ∧ 8 + (3 + 11) + rm_Sets_keep.locals ≤ (rm_Sets_choose (d + 1)).locals := ⟨rfl, rfl, by simp only [rm_Sets_choose, rm_Sets_keep]; omega, by simp only [rm_Sets_choose, rm_Sets_keep]; omega⟩
set_option maxHeartbeats 4000000 in
set_option maxRecDepth 100000 in
theorem k_Sets_choose_b119 {p : Program} {l : Launch} {e : Env} {s : State} {m : MethodId} {args : Array Value} {below : List Frame} {meth : Method} {c : Code} {dC : Nat → ClassId} {dI : Nat → Nat → Nat} {cy : Nat → ClassId} {A : Nat → Prop} {o0 : Nat} {a0 : Nat → Nat} {o1 : Nat} {a1 : Nat → Nat} {N : Nat} {d : Nat} {kr : zSt → zSt → Int32 → Int32 → Option (zSt)} {y : zSt} (C0 : zCx p s m args meth c cX7_choose 4 none RX7 (dC, dI) cy) (s0 : zSt) (s1 : zSt) (v1 : Int32) (hkr : ∀ {sz : Nat} (o0 : Nat) (a0 : Nat → Nat) (s0 : zSt) (o1 : Nat) (a1 : Nat → Nat) (s1 : zSt) (v1 : Int32) (v2 : Int32) {y : zSt}, kr s0 s1 v1 v2 = some y → Met l yX7_choose (.code yX7_choose cX7_choose 4 none :: zt) (rm_Sets_choose d) (va_Pc [.ref o0, .int v1, .int v2, .ref o1] (zPre (dC, dI) cy (wd_Sets_choose cy o0 a0 (zI s0) (zL s0) (zA s0 9) (zA s0 10) (zA s0 11) (zA s0 12) (zA s0 13) o1 a1 (zI s1) (zL s1) (zA s1 1) (zA s1 3) (zA s1 4) (zA s1 5)) sz)) (zQv (dC, dI) cy (wd_Sets_choose cy o0 a0 (zI y) (zL y) (zA y 9) (zA y 10) (zA y 11) (zA y 12) (zA y 13) o1 a1 (zI s1) (zL s1) (zA s1 1) (zA s1 3) (zA s1 4) (zA s1 5)) (va_A (wd_Sets_choose cy o0 a0 (zI s0) (zL s0) (zA s0 9) (zA s0 10) (zA s0 11) (zA s0 12) (zA s0 13) o1 a1 (zI s1) (zL s1) (zA s1 1) (zA s1 3) (zA s1 4) (zA s1 5)) sz)) 0 0 (va_A (wd_Sets_choose cy o0 a0 (zI s0) (zL s0) (zA s0 9) (zA s0 10) (zA s0 11) (zA s0 12) (zA s0 13) o1 a1 (zI s1) (zL s1) (zA s1 1) (zA s1 3) (zA s1 4) (zA s1 5)) sz)) (hA : ∀ q, s.heap.size ≤ q → A q) {H : Heap} {locs : List Loc} (hP : va_P (dC, dI) vwCl (wd_Sets_choose cy o0 a0 (zI s0) (zL s0) (zA s0 9) (zA s0 10) (zA s0 11) (zA s0 12) (zA s0 13) o1 a1 (zI s1) (zL s1) (zA s1 1) (zA s1 3) (zA s1 4) (zA s1 5)) H) (hD : va_D A (wd_Sets_choose cy o0 a0 (zI s0) (zL s0) (zA s0 9) (zA s0 10) (zA s0 11) (zA s0 12) (zA s0 13) o1 a1 (zI s1) (zL s1) (zA s1 1) (zA s1 3) (zA s1 4) (zA s1 5))) (hS : va_S A s.heap H locs) (hf : Sets_choose_b119 N kr s0 s1 v1 = some y) (ls : Array Slot) (hl : lv_has ls 4 [(0, .ref o0), (1, .int v1), (3, .ref o1)]) : W p l e (rm_Sets_choose (d + 1)) s m args below meth c H locs 0 0 (MQ below (zQv (dC, dI) cy (wd_Sets_choose cy o0 a0 (zI y) (zL y) (zA y 9) (zA y 10) (zA y 11) (zA y 12) (zA y 13) o1 a1 (zI s1) (zL s1) (zA s1 1) (zA s1 3) (zA s1 4) (zA s1 5)) A) args s 0 0 A) (F0 m 119 ls []) := by
  obtain ⟨hx, hb, hr, hml, hown, hT, hk, hK⟩ := id C0
  refine lv_aload_n hx hb dX7_choose_119 rfl (lv_at hl 0 rfl) ?_
  refine lv_iload_n hx hb dX7_choose_120 rfl (lv_at hl 1 rfl) ?_
  refine lv_iconst (v := (-1)) hx hb dX7_choose_121 (by decide) ?_
  refine lv_aload_n hx hb dX7_choose_122 rfl (lv_at hl 0 rfl) ?_
  refine zget (v := .ref (a0 11)) hx hb hown hT hK hP inX7 rfl smX7 0 rfl 11 (by decide) tb_297 rfl dX7_choose_123 ?_
  refine lv_aload_n hx hb dX7_choose_126 rfl (lv_at hl 2 rfl) ?_
  obtain ⟨z1, hc2, hf⟩ := zbd_some hf
  refine zwv (wr := [(a0 12, .inl (cy 0, 48, .inl (zA s0 12))), (a0 13, .inl (cy 0, 64, .inl (zA s0 13))), (a1 1, .inl (cy 0, 4, .inl (zA s1 1))), (a1 4, .inl (cy 0, 48, .inl (zA s1 4))), (a1 5, .inl (cy 0, 48, .inl (zA s1 5)))]) (ws' := (wd_Sets_choose cy o0 a0 (zI s0) (zL s0) (zA s0 9) (zA s0 10) z1 (zA s0 12) (zA s0 13) o1 a1 (zI s1) (zL s1) (zA s1 1) (zA s1 3) (zA s1 4) (zA s1 5))) (zV (As := [.int v1, .int (-1), .ref (a0 11), .ref o1]) hx hb hml hown hT hl.1 (c_Sets_add o0 a0 s0 (a0 11) 48 (zA s0 11) o1 a1 s1 v1 (-1) hc2) zY_Sets_add tb_799 (zpRw hK hP hD [0, 1, 2, 3, 6, 8] (by decide) rfl 0 7 rfl rfl rfl rfl) rm_ok_Sets_choose_Sets_add rfl rfl (Nat.le_of_ble_eq_true rfl) dX7_choose_127 ⟨Nat.zero_le _, Nat.zero_le _⟩) hP hD hS hA [0, 1, 2, 3, 6, 8] [4, 5, 7, 9, 10] [5, 6, 7, 8, 0, 1, 9, 2, 10, 3, 4] rfl rfl (by decide) (by decide) (by decide) rfl rfl (fun H locs hP hD hS => ?_)
  refine lv_aload_n hx hb dX7_choose_130 rfl (lv_at hl 0 rfl) ?_
  refine lv_iload_n hx hb dX7_choose_131 rfl (lv_at hl 1 rfl) ?_
  refine lv_iconst (v := 1) hx hb dX7_choose_132 (by decide) ?_
  refine lv_aload_n hx hb dX7_choose_133 rfl (lv_at hl 0 rfl) ?_
  refine zget (v := .ref (a0 12)) hx hb hown hT hK hP inX7 rfl smX7 0 rfl 12 (by decide) tb_298 rfl dX7_choose_134 ?_
  refine lv_aload_n hx hb dX7_choose_137 rfl (lv_at hl 2 rfl) ?_
  obtain ⟨z3, hc4, hf⟩ := zbd_some hf
  refine zwv (wr := [(a0 11, .inl (cy 0, 48, .inl z1)), (a0 13, .inl (cy 0, 64, .inl (zA s0 13))), (a1 1, .inl (cy 0, 4, .inl (zA s1 1))), (a1 4, .inl (cy 0, 48, .inl (zA s1 4))), (a1 5, .inl (cy 0, 48, .inl (zA s1 5)))]) (ws' := (wd_Sets_choose cy o0 a0 (zI s0) (zL s0) (zA s0 9) (zA s0 10) z1 z3 (zA s0 13) o1 a1 (zI s1) (zL s1) (zA s1 1) (zA s1 3) (zA s1 4) (zA s1 5))) (zV (As := [.int v1, .int 1, .ref (a0 12), .ref o1]) hx hb hml hown hT hl.1 (c_Sets_add o0 a0 (zsA s0 11 z1) (a0 12) 48 (zA s0 12) o1 a1 s1 v1 1 hc4) zY_Sets_add tb_799 (zpRw hK hP hD [0, 1, 2, 4, 6, 8] (by decide) rfl 0 7 rfl rfl rfl rfl) rm_ok_Sets_choose_Sets_add rfl rfl (Nat.le_of_ble_eq_true rfl) dX7_choose_138 ⟨Nat.zero_le _, Nat.zero_le _⟩) hP hD hS hA [0, 1, 2, 4, 6, 8] [3, 5, 7, 9, 10] [5, 6, 7, 0, 8, 1, 9, 2, 10, 3, 4] rfl rfl (by decide) (by decide) (by decide) rfl rfl (fun H locs hP hD hS => ?_)
  cases hf
  exact zewv hx hb hr hk hK hP hD hS dX7_choose_141
set_option maxHeartbeats 4000000 in
set_option maxRecDepth 100000 in
theorem k_Sets_choose_b74 {p : Program} {l : Launch} {e : Env} {s : State} {m : MethodId} {args : Array Value} {below : List Frame} {meth : Method} {c : Code} {dC : Nat → ClassId} {dI : Nat → Nat → Nat} {cy : Nat → ClassId} {A : Nat → Prop} {o0 : Nat} {a0 : Nat → Nat} {o1 : Nat} {a1 : Nat → Nat} {N : Nat} {d : Nat} {kr : zSt → zSt → Int32 → Int32 → Option (zSt)} {y : zSt} (C0 : zCx p s m args meth c cX7_choose 4 none RX7 (dC, dI) cy) (s0 : zSt) (s1 : zSt) (v1 : Int32) (v2 : Int32) (hkr : ∀ {sz : Nat} (o0 : Nat) (a0 : Nat → Nat) (s0 : zSt) (o1 : Nat) (a1 : Nat → Nat) (s1 : zSt) (v1 : Int32) (v2 : Int32) {y : zSt}, kr s0 s1 v1 v2 = some y → Met l yX7_choose (.code yX7_choose cX7_choose 4 none :: zt) (rm_Sets_choose d) (va_Pc [.ref o0, .int v1, .int v2, .ref o1] (zPre (dC, dI) cy (wd_Sets_choose cy o0 a0 (zI s0) (zL s0) (zA s0 9) (zA s0 10) (zA s0 11) (zA s0 12) (zA s0 13) o1 a1 (zI s1) (zL s1) (zA s1 1) (zA s1 3) (zA s1 4) (zA s1 5)) sz)) (zQv (dC, dI) cy (wd_Sets_choose cy o0 a0 (zI y) (zL y) (zA y 9) (zA y 10) (zA y 11) (zA y 12) (zA y 13) o1 a1 (zI s1) (zL s1) (zA s1 1) (zA s1 3) (zA s1 4) (zA s1 5)) (va_A (wd_Sets_choose cy o0 a0 (zI s0) (zL s0) (zA s0 9) (zA s0 10) (zA s0 11) (zA s0 12) (zA s0 13) o1 a1 (zI s1) (zL s1) (zA s1 1) (zA s1 3) (zA s1 4) (zA s1 5)) sz)) 0 0 (va_A (wd_Sets_choose cy o0 a0 (zI s0) (zL s0) (zA s0 9) (zA s0 10) (zA s0 11) (zA s0 12) (zA s0 13) o1 a1 (zI s1) (zL s1) (zA s1 1) (zA s1 3) (zA s1 4) (zA s1 5)) sz)) (hA : ∀ q, s.heap.size ≤ q → A q) {H : Heap} {locs : List Loc} (hP : va_P (dC, dI) vwCl (wd_Sets_choose cy o0 a0 (zI s0) (zL s0) (zA s0 9) (zA s0 10) (zA s0 11) (zA s0 12) (zA s0 13) o1 a1 (zI s1) (zL s1) (zA s1 1) (zA s1 3) (zA s1 4) (zA s1 5)) H) (hD : va_D A (wd_Sets_choose cy o0 a0 (zI s0) (zL s0) (zA s0 9) (zA s0 10) (zA s0 11) (zA s0 12) (zA s0 13) o1 a1 (zI s1) (zL s1) (zA s1 1) (zA s1 3) (zA s1 4) (zA s1 5))) (hS : va_S A s.heap H locs) (hf : Sets_choose_b74 N kr s0 s1 v1 v2 = some y) (ls : Array Slot) (hl : lv_has ls 4 [(0, .ref o0), (1, .int v1), (2, .int v2), (3, .ref o1)]) : W p l e (rm_Sets_choose (d + 1)) s m args below meth c H locs 0 0 (MQ below (zQv (dC, dI) cy (wd_Sets_choose cy o0 a0 (zI y) (zL y) (zA y 9) (zA y 10) (zA y 11) (zA y 12) (zA y 13) o1 a1 (zI s1) (zL s1) (zA s1 1) (zA s1 3) (zA s1 4) (zA s1 5)) A) args s 0 0 A) (F0 m 74 ls []) := by
  obtain ⟨hx, hb, hr, hml, hown, hT, hk, hK⟩ := id C0
  refine lv_aload_n hx hb dX7_choose_74 rfl (lv_at hl 0 rfl) ?_
  refine lv_iload_n hx hb dX7_choose_75 rfl (lv_at hl 1 rfl) ?_
  refine lv_iconst (v := 1) hx hb dX7_choose_76 (by decide) ?_
  refine lv_aload_n hx hb dX7_choose_77 rfl (lv_at hl 0 rfl) ?_
  refine zget (v := .ref (a0 11)) hx hb hown hT hK hP inX7 rfl smX7 0 rfl 11 (by decide) tb_297 rfl dX7_choose_78 ?_
  refine lv_aload_n hx hb dX7_choose_81 rfl (lv_at hl 3 rfl) ?_
  obtain ⟨z1, hc2, hf⟩ := zbd_some hf
  refine zwv (wr := [(a0 12, .inl (cy 0, 48, .inl (zA s0 12))), (a0 13, .inl (cy 0, 64, .inl (zA s0 13))), (a1 1, .inl (cy 0, 4, .inl (zA s1 1))), (a1 4, .inl (cy 0, 48, .inl (zA s1 4))), (a1 5, .inl (cy 0, 48, .inl (zA s1 5)))]) (ws' := (wd_Sets_choose cy o0 a0 (zI s0) (zL s0) (zA s0 9) (zA s0 10) z1 (zA s0 12) (zA s0 13) o1 a1 (zI s1) (zL s1) (zA s1 1) (zA s1 3) (zA s1 4) (zA s1 5))) (zV (As := [.int v1, .int 1, .ref (a0 11), .ref o1]) hx hb hml hown hT hl.1 (c_Sets_add o0 a0 s0 (a0 11) 48 (zA s0 11) o1 a1 s1 v1 1 hc2) zY_Sets_add tb_799 (zpRw hK hP hD [0, 1, 2, 3, 6, 8] (by decide) rfl 0 7 rfl rfl rfl rfl) rm_ok_Sets_choose_Sets_add rfl rfl (Nat.le_of_ble_eq_true rfl) dX7_choose_82 ⟨Nat.zero_le _, Nat.zero_le _⟩) hP hD hS hA [0, 1, 2, 3, 6, 8] [4, 5, 7, 9, 10] [5, 6, 7, 8, 0, 1, 9, 2, 10, 3, 4] rfl rfl (by decide) (by decide) (by decide) rfl rfl (fun H locs hP hD hS => ?_)
  refine lv_aload_n hx hb dX7_choose_85 rfl (lv_at hl 3 rfl) ?_
  refine lv_aload_n hx hb dX7_choose_86 rfl (lv_at hl 0 rfl) ?_
  refine zget (v := .ref (a0 9)) hx hb hown hT hK hP inX7 rfl smX7 0 rfl 9 (by decide) tb_295 rfl dX7_choose_87 ?_
  refine lv_iload_n hx hb dX7_choose_90 rfl (lv_at hl 1 rfl) ?_
  obtain ⟨hi3, hf⟩ := zck_some hf
  refine va_iald hx hb hK.1 hP 1 0 rfl rfl hi3 dX7_choose_91 ?_
  refine lv_aload_n hx hb dX7_choose_92 rfl (lv_at hl 0 rfl) ?_
  refine zget (v := .ref (a0 11)) hx hb hown hT hK hP inX7 rfl smX7 0 rfl 11 (by decide) tb_297 rfl dX7_choose_93 ?_
  refine lv_aload_n hx hb dX7_choose_96 rfl (lv_at hl 0 rfl) ?_
  refine zget (v := .ref (a0 12)) hx hb hown hT hK hP inX7 rfl smX7 0 rfl 12 (by decide) tb_298 rfl dX7_choose_97 ?_
  obtain ⟨z4, hc5, hf⟩ := zbd_some hf
  refine zri (zV (As := [.int ((zA s0 9) (Int32.toNatClampNeg v1)), .ref (a0 11), .ref (a0 12)]) hx hb hml hown hT hl.1 (c_Bounds_canBe o1 a1 s1 (a0 11) 48 z1 (a0 12) 48 (zA s0 12) ((zA s0 9) (Int32.toNatClampNeg v1)) hc5) zY_Bounds_canBe tb_807 (zpR hK hP [6, 7, 8, 9, 10, 3, 4] rfl 0 0 rfl rfl rfl) rm_ok_Sets_choose_Bounds_canBe rfl rfl (Nat.le_of_ble_eq_true rfl) dX7_choose_100 ⟨Nat.zero_le _, Nat.zero_le _⟩) ?_
  refine lv_if_eq (tgt := 119) hx hb dX7_choose_103 (by decide) (fun hb_6 => ?_) (fun hb_6 => ?_)
  · have hf := zif_t hb_6 hf
    exact k_Sets_choose_b119 C0 (zsA s0 11 z1) s1 v1 hkr hA hP hD hS hf _ (lv_sub hl [0, 1, 3] rfl)
  · have hf := zif_f hb_6 hf
    refine lv_aload_n hx hb dX7_choose_106 rfl (lv_at hl 0 rfl) ?_
    refine lv_iload_n hx hb dX7_choose_107 rfl (lv_at hl 1 rfl) ?_
    refine lv_iconst (v := 1) hx hb dX7_choose_108 (by decide) ?_
    refine lv_iadd hx hb dX7_choose_109 ?_
    refine lv_iload_n hx hb dX7_choose_110 rfl (lv_at hl 2 rfl) ?_
    refine lv_iconst (v := 1) hx hb dX7_choose_111 (by decide) ?_
    refine lv_ishl hx hb dX7_choose_112 ?_
    refine lv_iconst (v := 1) hx hb dX7_choose_113 (by decide) ?_
    refine lv_ior hx hb dX7_choose_114 ?_
    refine lv_aload_n hx hb dX7_choose_115 rfl (lv_at hl 3 rfl) ?_
    obtain ⟨z7, hc8, hf⟩ := zbd_some hf
    refine zwv (wr := []) (ws' := (wd_Sets_choose cy o0 a0 (zI z7) (zL z7) (zA z7 9) (zA z7 10) (zA z7 11) (zA z7 12) (zA z7 13) o1 a1 (zI s1) (zL s1) (zA s1 1) (zA s1 3) (zA s1 4) (zA s1 5))) (zV (As := [.int (v1 + 1), .int ((v2 <<< (1 &&& 31)) ||| 1), .ref o1]) hx hb hml hown hT hl.1 (hkr o0 a0 (zsA s0 11 z1) o1 a1 s1 (v1 + 1) ((v2 <<< (1 &&& 31)) ||| 1) hc8) zY_Sets_choose tb_811 (zpRw hK hP hD [0, 1, 2, 3, 4, 5, 6, 7, 8, 9, 10] (by decide) rfl 0 7 rfl rfl rfl rfl) rm_ok_Sets_choose_Sets_choose rfl rfl (Nat.le_of_ble_eq_true rfl) dX7_choose_116 ⟨Nat.zero_le _, Nat.zero_le _⟩) hP hD hS hA [0, 1, 2, 3, 4, 5, 6, 7, 8, 9, 10] [] [0, 1, 2, 3, 4, 5, 6, 7, 8, 9, 10] rfl rfl (by decide) (by decide) (by decide) rfl rfl (fun H locs hP hD hS => ?_)
    exact k_Sets_choose_b119 C0 z7 s1 v1 hkr hA hP hD hS hf _ (lv_sub hl [0, 1, 3] rfl)
set_option maxHeartbeats 4000000 in
set_option maxRecDepth 100000 in
theorem k_Sets_choose_b17 {p : Program} {l : Launch} {e : Env} {s : State} {m : MethodId} {args : Array Value} {below : List Frame} {meth : Method} {c : Code} {dC : Nat → ClassId} {dI : Nat → Nat → Nat} {cy : Nat → ClassId} {A : Nat → Prop} {o0 : Nat} {a0 : Nat → Nat} {o1 : Nat} {a1 : Nat → Nat} {N : Nat} {d : Nat} {kr : zSt → zSt → Int32 → Int32 → Option (zSt)} {y : zSt} (C0 : zCx p s m args meth c cX7_choose 4 none RX7 (dC, dI) cy) (s0 : zSt) (s1 : zSt) (v1 : Int32) (v2 : Int32) (hkr : ∀ {sz : Nat} (o0 : Nat) (a0 : Nat → Nat) (s0 : zSt) (o1 : Nat) (a1 : Nat → Nat) (s1 : zSt) (v1 : Int32) (v2 : Int32) {y : zSt}, kr s0 s1 v1 v2 = some y → Met l yX7_choose (.code yX7_choose cX7_choose 4 none :: zt) (rm_Sets_choose d) (va_Pc [.ref o0, .int v1, .int v2, .ref o1] (zPre (dC, dI) cy (wd_Sets_choose cy o0 a0 (zI s0) (zL s0) (zA s0 9) (zA s0 10) (zA s0 11) (zA s0 12) (zA s0 13) o1 a1 (zI s1) (zL s1) (zA s1 1) (zA s1 3) (zA s1 4) (zA s1 5)) sz)) (zQv (dC, dI) cy (wd_Sets_choose cy o0 a0 (zI y) (zL y) (zA y 9) (zA y 10) (zA y 11) (zA y 12) (zA y 13) o1 a1 (zI s1) (zL s1) (zA s1 1) (zA s1 3) (zA s1 4) (zA s1 5)) (va_A (wd_Sets_choose cy o0 a0 (zI s0) (zL s0) (zA s0 9) (zA s0 10) (zA s0 11) (zA s0 12) (zA s0 13) o1 a1 (zI s1) (zL s1) (zA s1 1) (zA s1 3) (zA s1 4) (zA s1 5)) sz)) 0 0 (va_A (wd_Sets_choose cy o0 a0 (zI s0) (zL s0) (zA s0 9) (zA s0 10) (zA s0 11) (zA s0 12) (zA s0 13) o1 a1 (zI s1) (zL s1) (zA s1 1) (zA s1 3) (zA s1 4) (zA s1 5)) sz)) (hA : ∀ q, s.heap.size ≤ q → A q) {H : Heap} {locs : List Loc} (hP : va_P (dC, dI) vwCl (wd_Sets_choose cy o0 a0 (zI s0) (zL s0) (zA s0 9) (zA s0 10) (zA s0 11) (zA s0 12) (zA s0 13) o1 a1 (zI s1) (zL s1) (zA s1 1) (zA s1 3) (zA s1 4) (zA s1 5)) H) (hD : va_D A (wd_Sets_choose cy o0 a0 (zI s0) (zL s0) (zA s0 9) (zA s0 10) (zA s0 11) (zA s0 12) (zA s0 13) o1 a1 (zI s1) (zL s1) (zA s1 1) (zA s1 3) (zA s1 4) (zA s1 5))) (hS : va_S A s.heap H locs) (hf : Sets_choose_b17 N kr s0 s1 v1 v2 = some y) (ls : Array Slot) (hl : lv_has ls 4 [(0, .ref o0), (1, .int v1), (2, .int v2), (3, .ref o1)]) : W p l e (rm_Sets_choose (d + 1)) s m args below meth c H locs 0 0 (MQ below (zQv (dC, dI) cy (wd_Sets_choose cy o0 a0 (zI y) (zL y) (zA y 9) (zA y 10) (zA y 11) (zA y 12) (zA y 13) o1 a1 (zI s1) (zL s1) (zA s1 1) (zA s1 3) (zA s1 4) (zA s1 5)) A) args s 0 0 A) (F0 m 17 ls []) := by
  obtain ⟨hx, hb, hr, hml, hown, hT, hk, hK⟩ := id C0
  refine lv_iload_n hx hb dX7_choose_17 rfl (lv_at hl 1 rfl) ?_
  refine lv_aload_n hx hb dX7_choose_18 rfl (lv_at hl 0 rfl) ?_
  refine zget (v := .int (zI s0 7)) hx hb hown hT hK hP inX7 rfl smX7 0 rfl 7 (by decide) tb_293 rfl dX7_choose_19 ?_
  refine lv_icmp_lt (tgt := 31) hx hb dX7_choose_22 (by decide) (fun hb_1 => ?_) (fun hb_1 => ?_)
  · have hf := zif_t hb_1 hf
    refine lv_aload_n hx hb dX7_choose_31 rfl (lv_at hl 0 rfl) ?_
    refine lv_iload_n hx hb dX7_choose_32 rfl (lv_at hl 1 rfl) ?_
    refine lv_iconst (v := (-1)) hx hb dX7_choose_33 (by decide) ?_
    refine lv_aload_n hx hb dX7_choose_34 rfl (lv_at hl 0 rfl) ?_
    refine zget (v := .ref (a0 12)) hx hb hown hT hK hP inX7 rfl smX7 0 rfl 12 (by decide) tb_298 rfl dX7_choose_35 ?_
    refine lv_aload_n hx hb dX7_choose_38 rfl (lv_at hl 3 rfl) ?_
    obtain ⟨z2, hc3, hf⟩ := zbd_some hf
    refine zwv (wr := [(a0 11, .inl (cy 0, 48, .inl (zA s0 11))), (a0 13, .inl (cy 0, 64, .inl (zA s0 13))), (a1 1, .inl (cy 0, 4, .inl (zA s1 1))), (a1 4, .inl (cy 0, 48, .inl (zA s1 4))), (a1 5, .inl (cy 0, 48, .inl (zA s1 5)))]) (ws' := (wd_Sets_choose cy o0 a0 (zI s0) (zL s0) (zA s0 9) (zA s0 10) (zA s0 11) z2 (zA s0 13) o1 a1 (zI s1) (zL s1) (zA s1 1) (zA s1 3) (zA s1 4) (zA s1 5))) (zV (As := [.int v1, .int (-1), .ref (a0 12), .ref o1]) hx hb hml hown hT hl.1 (c_Sets_add o0 a0 s0 (a0 12) 48 (zA s0 12) o1 a1 s1 v1 (-1) hc3) zY_Sets_add tb_799 (zpRw hK hP hD [0, 1, 2, 4, 6, 8] (by decide) rfl 0 7 rfl rfl rfl rfl) rm_ok_Sets_choose_Sets_add rfl rfl (Nat.le_of_ble_eq_true rfl) dX7_choose_39 ⟨Nat.zero_le _, Nat.zero_le _⟩) hP hD hS hA [0, 1, 2, 4, 6, 8] [3, 5, 7, 9, 10] [5, 6, 7, 0, 8, 1, 9, 2, 10, 3, 4] rfl rfl (by decide) (by decide) (by decide) rfl rfl (fun H locs hP hD hS => ?_)
    refine lv_aload_n hx hb dX7_choose_42 rfl (lv_at hl 3 rfl) ?_
    refine lv_aload_n hx hb dX7_choose_43 rfl (lv_at hl 0 rfl) ?_
    refine zget (v := .ref (a0 9)) hx hb hown hT hK hP inX7 rfl smX7 0 rfl 9 (by decide) tb_295 rfl dX7_choose_44 ?_
    refine lv_iload_n hx hb dX7_choose_47 rfl (lv_at hl 1 rfl) ?_
    obtain ⟨hi4, hf⟩ := zck_some hf
    refine va_iald hx hb hK.1 hP 1 0 rfl rfl hi4 dX7_choose_48 ?_
    refine lv_aload_n hx hb dX7_choose_49 rfl (lv_at hl 0 rfl) ?_
    refine zget (v := .ref (a0 11)) hx hb hown hT hK hP inX7 rfl smX7 0 rfl 11 (by decide) tb_297 rfl dX7_choose_50 ?_
    refine lv_aload_n hx hb dX7_choose_53 rfl (lv_at hl 0 rfl) ?_
    refine zget (v := .ref (a0 12)) hx hb hown hT hK hP inX7 rfl smX7 0 rfl 12 (by decide) tb_298 rfl dX7_choose_54 ?_
    obtain ⟨z5, hc6, hf⟩ := zbd_some hf
    refine zri (zV (As := [.int ((zA s0 9) (Int32.toNatClampNeg v1)), .ref (a0 11), .ref (a0 12)]) hx hb hml hown hT hl.1 (c_Bounds_canBe o1 a1 s1 (a0 11) 48 (zA s0 11) (a0 12) 48 z2 ((zA s0 9) (Int32.toNatClampNeg v1)) hc6) zY_Bounds_canBe tb_807 (zpR hK hP [6, 7, 8, 9, 10, 3, 4] rfl 0 0 rfl rfl rfl) rm_ok_Sets_choose_Bounds_canBe rfl rfl (Nat.le_of_ble_eq_true rfl) dX7_choose_57 ⟨Nat.zero_le _, Nat.zero_le _⟩) ?_
    refine lv_if_eq (tgt := 74) hx hb dX7_choose_60 (by decide) (fun hb_7 => ?_) (fun hb_7 => ?_)
    · have hf := zif_t hb_7 hf
      exact k_Sets_choose_b74 C0 (zsA s0 12 z2) s1 v1 v2 hkr hA hP hD hS hf _ (lv_sub hl [0, 1, 2, 3] rfl)
    · have hf := zif_f hb_7 hf
      refine lv_aload_n hx hb dX7_choose_63 rfl (lv_at hl 0 rfl) ?_
      refine lv_iload_n hx hb dX7_choose_64 rfl (lv_at hl 1 rfl) ?_
      refine lv_iconst (v := 1) hx hb dX7_choose_65 (by decide) ?_
      refine lv_iadd hx hb dX7_choose_66 ?_
      refine lv_iload_n hx hb dX7_choose_67 rfl (lv_at hl 2 rfl) ?_
      refine lv_iconst (v := 1) hx hb dX7_choose_68 (by decide) ?_
      refine lv_ishl hx hb dX7_choose_69 ?_
      refine lv_aload_n hx hb dX7_choose_70 rfl (lv_at hl 3 rfl) ?_
      obtain ⟨z8, hc9, hf⟩ := zbd_some hf
      refine zwv (wr := []) (ws' := (wd_Sets_choose cy o0 a0 (zI z8) (zL z8) (zA z8 9) (zA z8 10) (zA z8 11) (zA z8 12) (zA z8 13) o1 a1 (zI s1) (zL s1) (zA s1 1) (zA s1 3) (zA s1 4) (zA s1 5))) (zV (As := [.int (v1 + 1), .int (v2 <<< (1 &&& 31)), .ref o1]) hx hb hml hown hT hl.1 (hkr o0 a0 (zsA s0 12 z2) o1 a1 s1 (v1 + 1) (v2 <<< (1 &&& 31)) hc9) zY_Sets_choose tb_811 (zpRw hK hP hD [0, 1, 2, 3, 4, 5, 6, 7, 8, 9, 10] (by decide) rfl 0 7 rfl rfl rfl rfl) rm_ok_Sets_choose_Sets_choose rfl rfl (Nat.le_of_ble_eq_true rfl) dX7_choose_71 ⟨Nat.zero_le _, Nat.zero_le _⟩) hP hD hS hA [0, 1, 2, 3, 4, 5, 6, 7, 8, 9, 10] [] [0, 1, 2, 3, 4, 5, 6, 7, 8, 9, 10] rfl rfl (by decide) (by decide) (by decide) rfl rfl (fun H locs hP hD hS => ?_)
      exact k_Sets_choose_b74 C0 z8 s1 v1 v2 hkr hA hP hD hS hf _ (lv_sub hl [0, 1, 2, 3] rfl)
  · have hf := zif_f hb_1 hf
    refine lv_aload_n hx hb dX7_choose_25 rfl (lv_at hl 0 rfl) ?_
    refine lv_iload_n hx hb dX7_choose_26 rfl (lv_at hl 2 rfl) ?_
    obtain ⟨z10, hc11, hf⟩ := zbd_some hf
    refine zwv (wr := [(a0 9, .inl (cy 0, 11, .inl (zA s0 9))), (a0 10, .inl (cy 0, 44, .inl (zA s0 10))), (a0 11, .inl (cy 0, 48, .inl (zA s0 11))), (a0 12, .inl (cy 0, 48, .inl (zA s0 12))), (o1, .inr (0, fs_Bounds a1 (zI s1) (zL s1))), (a1 1, .inl (cy 0, 4, .inl (zA s1 1))), (a1 3, .inl (cy 0, 4, .inl (zA s1 3))), (a1 4, .inl (cy 0, 48, .inl (zA s1 4))), (a1 5, .inl (cy 0, 48, .inl (zA s1 5)))]) (ws' := (wd_Sets_choose cy o0 a0 (zI z10) (zL z10) (zA s0 9) (zA s0 10) (zA s0 11) (zA s0 12) (zA z10 13) o1 a1 (zI s1) (zL s1) (zA s1 1) (zA s1 3) (zA s1 4) (zA s1 5))) (zV (As := [.int v2]) hx hb hml hown hT hl.1 (c_Sets_keep o0 a0 s0 v2 hc11) zY_Sets_keep tb_819 (zpRw hK hP hD [0, 5] (by decide) rfl 0 7 rfl rfl rfl rfl) rm_ok_Sets_choose_Sets_keep rfl rfl (Nat.le_of_ble_eq_true rfl) dX7_choose_27 ⟨Nat.zero_le _, Nat.zero_le _⟩) hP hD hS hA [0, 5] [1, 2, 3, 4, 6, 7, 8, 9, 10] [9, 0, 1, 2, 3, 10, 4, 5, 6, 7, 8] rfl rfl (by decide) (by decide) (by decide) rfl rfl (fun H locs hP hD hS => ?_)
    cases hf
    exact zewv hx hb hr hk hK hP hD hS dX7_choose_30
set_option maxHeartbeats 4000000 in
set_option maxRecDepth 100000 in
theorem k_Sets_choose_b0 {p : Program} {l : Launch} {e : Env} {s : State} {m : MethodId} {args : Array Value} {below : List Frame} {meth : Method} {c : Code} {dC : Nat → ClassId} {dI : Nat → Nat → Nat} {cy : Nat → ClassId} {A : Nat → Prop} {o0 : Nat} {a0 : Nat → Nat} {o1 : Nat} {a1 : Nat → Nat} {N : Nat} {d : Nat} {kr : zSt → zSt → Int32 → Int32 → Option (zSt)} {y : zSt} (C0 : zCx p s m args meth c cX7_choose 4 none RX7 (dC, dI) cy) (s0 : zSt) (s1 : zSt) (v1 : Int32) (v2 : Int32) (hkr : ∀ {sz : Nat} (o0 : Nat) (a0 : Nat → Nat) (s0 : zSt) (o1 : Nat) (a1 : Nat → Nat) (s1 : zSt) (v1 : Int32) (v2 : Int32) {y : zSt}, kr s0 s1 v1 v2 = some y → Met l yX7_choose (.code yX7_choose cX7_choose 4 none :: zt) (rm_Sets_choose d) (va_Pc [.ref o0, .int v1, .int v2, .ref o1] (zPre (dC, dI) cy (wd_Sets_choose cy o0 a0 (zI s0) (zL s0) (zA s0 9) (zA s0 10) (zA s0 11) (zA s0 12) (zA s0 13) o1 a1 (zI s1) (zL s1) (zA s1 1) (zA s1 3) (zA s1 4) (zA s1 5)) sz)) (zQv (dC, dI) cy (wd_Sets_choose cy o0 a0 (zI y) (zL y) (zA y 9) (zA y 10) (zA y 11) (zA y 12) (zA y 13) o1 a1 (zI s1) (zL s1) (zA s1 1) (zA s1 3) (zA s1 4) (zA s1 5)) (va_A (wd_Sets_choose cy o0 a0 (zI s0) (zL s0) (zA s0 9) (zA s0 10) (zA s0 11) (zA s0 12) (zA s0 13) o1 a1 (zI s1) (zL s1) (zA s1 1) (zA s1 3) (zA s1 4) (zA s1 5)) sz)) 0 0 (va_A (wd_Sets_choose cy o0 a0 (zI s0) (zL s0) (zA s0 9) (zA s0 10) (zA s0 11) (zA s0 12) (zA s0 13) o1 a1 (zI s1) (zL s1) (zA s1 1) (zA s1 3) (zA s1 4) (zA s1 5)) sz)) (hA : ∀ q, s.heap.size ≤ q → A q) {H : Heap} {locs : List Loc} (hP : va_P (dC, dI) vwCl (wd_Sets_choose cy o0 a0 (zI s0) (zL s0) (zA s0 9) (zA s0 10) (zA s0 11) (zA s0 12) (zA s0 13) o1 a1 (zI s1) (zL s1) (zA s1 1) (zA s1 3) (zA s1 4) (zA s1 5)) H) (hD : va_D A (wd_Sets_choose cy o0 a0 (zI s0) (zL s0) (zA s0 9) (zA s0 10) (zA s0 11) (zA s0 12) (zA s0 13) o1 a1 (zI s1) (zL s1) (zA s1 1) (zA s1 3) (zA s1 4) (zA s1 5))) (hS : va_S A s.heap H locs) (hf : Sets_choose_b0 N kr s0 s1 v1 v2 = some y) (ls : Array Slot) (hl : lv_has ls 4 [(0, .ref o0), (1, .int v1), (2, .int v2), (3, .ref o1)]) : W p l e (rm_Sets_choose (d + 1)) s m args below meth c H locs 0 0 (MQ below (zQv (dC, dI) cy (wd_Sets_choose cy o0 a0 (zI y) (zL y) (zA y 9) (zA y 10) (zA y 11) (zA y 12) (zA y 13) o1 a1 (zI s1) (zL s1) (zA s1 1) (zA s1 3) (zA s1 4) (zA s1 5)) A) args s 0 0 A) (F0 m 0 ls []) := by
  obtain ⟨hx, hb, hr, hml, hown, hT, hk, hK⟩ := id C0
  refine lv_aload_n hx hb dX7_choose_0 rfl (lv_at hl 0 rfl) ?_
  refine zget (v := .int (zI s0 6)) hx hb hown hT hK hP inX7 rfl smX7 0 rfl 6 (by decide) tb_292 rfl dX7_choose_1 ?_
  refine lv_if_eq (tgt := 17) hx hb dX7_choose_4 (by decide) (fun hb_1 => ?_) (fun hb_1 => ?_)
  · have hf := zif_t hb_1 hf
    exact k_Sets_choose_b17 C0 s0 s1 v1 v2 hkr hA hP hD hS hf _ (lv_sub hl [0, 1, 2, 3] rfl)
  · have hf := zif_f hb_1 hf
    refine lv_aload_n hx hb dX7_choose_7 rfl (lv_at hl 0 rfl) ?_
    refine lv_iload_n hx hb dX7_choose_8 rfl (lv_at hl 1 rfl) ?_
    refine lv_iload_n hx hb dX7_choose_9 rfl (lv_at hl 2 rfl) ?_
    obtain ⟨z2, hc3, hf⟩ := zbd_some hf
    refine zri (zV (As := [.int v1, .int v2]) hx hb hml hown hT hl.1 (c_Sets_allSeen o0 a0 s0 v1 v2 hc3) zY_Sets_allSeen tb_815 (zpR hK hP [0, 5] rfl 0 7 rfl rfl rfl) rm_ok_Sets_choose_Sets_allSeen rfl rfl (Nat.le_of_ble_eq_true rfl) dX7_choose_10 ⟨Nat.zero_le _, Nat.zero_le _⟩) ?_
    refine lv_if_eq (tgt := 17) hx hb dX7_choose_13 (by decide) (fun hb_4 => ?_) (fun hb_4 => ?_)
    · have hf := zif_t hb_4 hf
      exact k_Sets_choose_b17 C0 s0 s1 v1 v2 hkr hA hP hD hS hf _ (lv_sub hl [0, 1, 2, 3] rfl)
    · have hf := zif_f hb_4 hf
      cases hf
      exact zewv hx hb hr hk hK hP hD hS dX7_choose_16
set_option maxHeartbeats 4000000 in
set_option maxRecDepth 100000 in
theorem c_Sets_choose {l : Launch} {dC : Nat → ClassId} {dI : Nat → Nat → Nat} {cy : Nat → ClassId} {N : Nat} : ∀ {d : Nat} {sz : Nat} (o0 : Nat) (a0 : Nat → Nat) (s0 : zSt) (o1 : Nat) (a1 : Nat → Nat) (s1 : zSt) (v1 : Int32) (v2 : Int32) {y : zSt} (hf : Sets_choose N d s0 s1 v1 v2 = some y), Met l yX7_choose (.code yX7_choose cX7_choose 4 none :: zt) (rm_Sets_choose d) (va_Pc [.ref o0, .int v1, .int v2, .ref o1] (zPre (dC, dI) cy (wd_Sets_choose cy o0 a0 (zI s0) (zL s0) (zA s0 9) (zA s0 10) (zA s0 11) (zA s0 12) (zA s0 13) o1 a1 (zI s1) (zL s1) (zA s1 1) (zA s1 3) (zA s1 4) (zA s1 5)) sz)) (zQv (dC, dI) cy (wd_Sets_choose cy o0 a0 (zI y) (zL y) (zA y 9) (zA y 10) (zA y 11) (zA y 12) (zA y 13) o1 a1 (zI s1) (zL s1) (zA s1 1) (zA s1 3) (zA s1 4) (zA s1 5)) (va_A (wd_Sets_choose cy o0 a0 (zI s0) (zL s0) (zA s0 9) (zA s0 10) (zA s0 11) (zA s0 12) (zA s0 13) o1 a1 (zI s1) (zL s1) (zA s1 1) (zA s1 3) (zA s1 4) (zA s1 5)) sz)) 0 0 (va_A (wd_Sets_choose cy o0 a0 (zI s0) (zL s0) (zA s0 9) (zA s0 10) (zA s0 11) (zA s0 12) (zA s0 13) o1 a1 (zI s1) (zL s1) (zA s1 1) (zA s1 3) (zA s1 4) (zA s1 5)) sz) := by
  intro d
  induction d with
  | zero => intro sz o0 a0 s0 o1 a1 s1 v1 v2 y hf; cases hf
  | succ d ih =>
    intro sz o0 a0 s0 o1 a1 s1 v1 v2 y hf
    exact zentW (Qw := fun A => (zQv (dC, dI) cy (wd_Sets_choose cy o0 a0 (zI y) (zL y) (zA y 9) (zA y 10) (zA y 11) (zA y 12) (zA y 13) o1 a1 (zI s1) (zL s1) (zA s1 1) (zA s1 3) (zA s1 4) (zA s1 5)) A)) (by decide +kernel) (Nat.le_of_ble_eq_true rfl) (fun p e s m below meth c A C0 hA hP hD hS ls hl => k_Sets_choose_b0 C0 s0 s1 v1 v2 (@fun _ o0 a0 s0 o1 a1 s1 v1 v2 _ h => ih o0 a0 s0 o1 a1 s1 v1 v2 h) hA hP hD hS hf ls hl)
def wd_Sets_spread (cy : Nat → ClassId) (o0 : Nat) (a0 : Nat → Nat) (g0 : Nat → Int32) (h0 : Nat → Int64) (x0_8 : Nat → Int32) : va_W := [(o0, .inr (7, fs_Sets a0 g0 h0)), (a0 8, .inl (cy 0, 11, .inl x0_8))]
def rm_Sets_spread : Room := { frames := 1, cells := 0, slots := 0, locals := 40 }
set_option maxHeartbeats 4000000 in
set_option maxRecDepth 100000 in
theorem k_Sets_spread_b4 {p : Program} {l : Launch} {e : Env} {s : State} {m : MethodId} {args : Array Value} {below : List Frame} {meth : Method} {c : Code} {dC : Nat → ClassId} {dI : Nat → Nat → Nat} {cy : Nat → ClassId} {o0 : Nat} {a0 : Nat → Nat} {N : Nat} {kh4 : Int32 → Int32 → Option (Int32)} {y : Int32} (C0 : zCx p s m args meth c cX7_spread 4 (some .int) RX7 (dC, dI) cy) (s0 : zSt) (v1 : Int32) (v2 : Int32) (v3 : Int32) (hk4 : ∀ (v2 : Int32) (v3 : Int32) (_ : kh4 v2 v3 = some y) (ls : Array Slot) (_ : lv_has ls 4 [(0, .ref o0), (1, .int v1), (2, .int v2), (3, .int v3)]), W p l e rm_Sets_spread s m args below meth c s.heap [] 0 0 (MQ below (zSi y) args s 0 0 (fun _ => False)) (F0 m 4 ls [])) (hP : va_P (dC, dI) vwCl (wd_Sets_spread cy o0 a0 (zI s0) (zL s0) (zA s0 8)) s.heap) (hf : Sets_spread_b4 N kh4 s0 v1 v2 v3 = some y) (ls : Array Slot) (hl : lv_has ls 4 [(0, .ref o0), (1, .int v1), (2, .int v2), (3, .int v3)]) : W p l e rm_Sets_spread s m args below meth c s.heap [] 0 0 (MQ below (zSi y) args s 0 0 (fun _ => False)) (F0 m 4 ls []) := by
  obtain ⟨hx, hb, hr, hml, hown, hT, hk, hK⟩ := id C0
  refine lv_iload_n hx hb dX7_spread_4 rfl (lv_at hl 3 rfl) ?_
  refine lv_aload_n hx hb dX7_spread_5 rfl (lv_at hl 0 rfl) ?_
  refine zget (v := .int (zI s0 7)) hx hb hown hT hK hP inX7 rfl smX7 0 rfl 7 (by decide) tb_293 rfl dX7_spread_6 ?_
  refine lv_icmp_ge (tgt := 40) hx hb dX7_spread_9 (by decide) (fun hb_1 => ?_) (fun hb_1 => ?_)
  · have hf := zif_t hb_1 hf
    refine lv_iload_n hx hb dX7_spread_40 rfl (lv_at hl 2 rfl) ?_
    cases hf
    exact zeri hx hb hr hk dX7_spread_41
  · have hf := zif_f hb_1 hf
    refine lv_iload_n hx hb dX7_spread_12 rfl (lv_at hl 2 rfl) ?_
    refine lv_iload_n hx hb dX7_spread_13 rfl (lv_at hl 1 rfl) ?_
    refine lv_aload_n hx hb dX7_spread_14 rfl (lv_at hl 0 rfl) ?_
    refine zget (v := .int (zI s0 7)) hx hb hown hT hK hP inX7 rfl smX7 0 rfl 7 (by decide) tb_293 rfl dX7_spread_15 ?_
    refine lv_iconst (v := 1) hx hb dX7_spread_18 (by decide) ?_
    refine lv_isub hx hb dX7_spread_19 ?_
    refine lv_iload_n hx hb dX7_spread_20 rfl (lv_at hl 3 rfl) ?_
    refine lv_isub hx hb dX7_spread_21 ?_
    refine lv_ishr hx hb dX7_spread_22 ?_
    refine lv_iconst (v := 1) hx hb dX7_spread_23 (by decide) ?_
    refine lv_iand hx hb dX7_spread_24 ?_
    refine lv_aload_n hx hb dX7_spread_25 rfl (lv_at hl 0 rfl) ?_
    refine zget (v := .ref (a0 8)) hx hb hown hT hK hP inX7 rfl smX7 0 rfl 8 (by decide) tb_294 rfl dX7_spread_26 ?_
    refine lv_iload_n hx hb dX7_spread_29 rfl (lv_at hl 3 rfl) ?_
    obtain ⟨hi2, hf⟩ := zck_some hf
    refine va_iald hx hb hK.1 hP 1 0 rfl rfl hi2 dX7_spread_30 ?_
    refine lv_ishl hx hb dX7_spread_31 ?_
    refine lv_ior hx hb dX7_spread_32 ?_
    refine lv_istore_n (lv' := [(2, .int (v2 ||| (((v1 >>> ((((zI s0 7) - 1) - v3) &&& 31)) &&& 1) <<< (((zA s0 8) (Int32.toNatClampNeg v3)) &&& 31)))), (0, .ref o0), (1, .int v1), (3, .int v3)]) hx hb dX7_spread_33 rfl hl (by decide) rfl (fun ls hl => ?_)
    refine lv_iinc (v := v3 + 1) (lv' := [(3, .int (v3 + 1)), (2, .int (v2 ||| (((v1 >>> ((((zI s0 7) - 1) - v3) &&& 31)) &&& 1) <<< (((zA s0 8) (Int32.toNatClampNeg v3)) &&& 31)))), (0, .ref o0), (1, .int v1)]) hx hb dX7_spread_34 hl (k := 3) rfl rfl (by decide) rfl (fun ls hl => ?_)
    refine lv_goto (tgt := 4) hx hb dX7_spread_37 (by decide) ?_
    exact hk4 (v2 ||| (((v1 >>> ((((zI s0 7) - 1) - v3) &&& 31)) &&& 1) <<< (((zA s0 8) (Int32.toNatClampNeg v3)) &&& 31))) (v3 + 1) hf _ (lv_sub hl [2, 3, 1, 0] rfl)
set_option maxHeartbeats 4000000 in
set_option maxRecDepth 100000 in
theorem k_Sets_spread_h4 {p : Program} {l : Launch} {e : Env} {s : State} {m : MethodId} {args : Array Value} {below : List Frame} {meth : Method} {c : Code} {dC : Nat → ClassId} {dI : Nat → Nat → Nat} {cy : Nat → ClassId} {o0 : Nat} {a0 : Nat → Nat} {N : Nat} {y : Int32} (C0 : zCx p s m args meth c cX7_spread 4 (some .int) RX7 (dC, dI) cy) (s0 : zSt) (v1 : Int32) (hP : va_P (dC, dI) vwCl (wd_Sets_spread cy o0 a0 (zI s0) (zL s0) (zA s0 8)) s.heap) : ∀ (n : Nat) (v2 : Int32) (v3 : Int32) (hf : Sets_spread_h4 N s0 v1 n v2 v3 = some y) (ls : Array Slot) (hl : lv_has ls 4 [(0, .ref o0), (1, .int v1), (2, .int v2), (3, .int v3)]), W p l e rm_Sets_spread s m args below meth c s.heap [] 0 0 (MQ below (zSi y) args s 0 0 (fun _ => False)) (F0 m 4 ls []) := by
  intro n
  induction n with
  | zero => intro v2 v3 hf; cases hf
  | succ n ih =>
    intro v2 v3 hf ls hl
    have hf : Sets_spread_b4 N (Sets_spread_h4 N s0 v1 n) s0 v1 v2 v3 = some y := hf
    exact k_Sets_spread_b4 C0 s0 v1 v2 v3 (fun v2 v3 hf ls hl => ih v2 v3 hf ls hl) hP hf ls hl
set_option maxHeartbeats 4000000 in
set_option maxRecDepth 100000 in
theorem k_Sets_spread_b0 {p : Program} {l : Launch} {e : Env} {s : State} {m : MethodId} {args : Array Value} {below : List Frame} {meth : Method} {c : Code} {dC : Nat → ClassId} {dI : Nat → Nat → Nat} {cy : Nat → ClassId} {o0 : Nat} {a0 : Nat → Nat} {N : Nat} {y : Int32} (C0 : zCx p s m args meth c cX7_spread 4 (some .int) RX7 (dC, dI) cy) (s0 : zSt) (v1 : Int32) (hP : va_P (dC, dI) vwCl (wd_Sets_spread cy o0 a0 (zI s0) (zL s0) (zA s0 8)) s.heap) (hf : Sets_spread_b0 N s0 v1 = some y) (ls : Array Slot) (hl : lv_has ls 4 [(0, .ref o0), (1, .int v1)]) : W p l e rm_Sets_spread s m args below meth c s.heap [] 0 0 (MQ below (zSi y) args s 0 0 (fun _ => False)) (F0 m 0 ls []) := by
  obtain ⟨hx, hb, hr, hml, hown, hT, hk, hK⟩ := id C0
  refine lv_iconst (v := 0) hx hb dX7_spread_0 (by decide) ?_
  refine lv_istore_n (lv' := [(2, .int 0), (0, .ref o0), (1, .int v1)]) hx hb dX7_spread_1 rfl hl (by decide) rfl (fun ls hl => ?_)
  refine lv_iconst (v := 0) hx hb dX7_spread_2 (by decide) ?_
  refine lv_istore_n (lv' := [(3, .int 0), (2, .int 0), (0, .ref o0), (1, .int v1)]) hx hb dX7_spread_3 rfl hl (by decide) rfl (fun ls hl => ?_)
  exact k_Sets_spread_h4 C0 s0 v1  hP N 0 0 hf _ (lv_sub hl [2, 3, 1, 0] rfl)
set_option maxHeartbeats 4000000 in
set_option maxRecDepth 100000 in
theorem c_Sets_spread {l : Launch} {dC : Nat → ClassId} {dI : Nat → Nat → Nat} {cy : Nat → ClassId} {N : Nat} (o0 : Nat) (a0 : Nat → Nat) (s0 : zSt) (v1 : Int32) {y : Int32} (hf : Sets_spread N s0 v1 = some y) : Met l yX7_spread (.code yX7_spread cX7_spread 4 (some .int) :: zt) rm_Sets_spread (va_Pc [.ref o0, .int v1] (zRd (dC, dI) cy (wd_Sets_spread cy o0 a0 (zI s0) (zL s0) (zA s0 8)))) (zSi y) 0 0 (fun _ => False) :=
  zentR (by decide +kernel) (Nat.le_of_ble_eq_true rfl) (fun p e s m below meth c C0 hP ls hl => k_Sets_spread_b0 C0 s0 v1 hP hf ls hl)
def wd_Sets_seek (cy : Nat → ClassId) (o0 : Nat) (a0 : Nat → Nat) (g0 : Nat → Int32) (h0 : Nat → Int64) (x0_8 : Nat → Int32) (x0_9 : Nat → Int32) (x0_10 : Nat → Int32) (x0_11 : Nat → Int32) (x0_12 : Nat → Int32) (x0_13 : Nat → Int32) (o1 : Nat) (a1 : Nat → Nat) (g1 : Nat → Int32) (h1 : Nat → Int64) (x1_5 : Nat → Int32) (x1_6 : Nat → Int32) (x1_14 : Nat → Int32) (o2 : Nat) (a2 : Nat → Nat) (g2 : Nat → Int32) (h2 : Nat → Int64) (x2_1 : Nat → Int32) (x2_3 : Nat → Int32) (x2_4 : Nat → Int32) (x2_5 : Nat → Int32) : va_W := [(o0, .inr (7, fs_Sets a0 g0 h0)), (a0 8, .inl (cy 0, 11, .inl x0_8)), (a0 9, .inl (cy 0, 11, .inl x0_9)), (a0 10, .inl (cy 0, 44, .inl x0_10)), (a0 11, .inl (cy 0, 48, .inl x0_11)), (a0 12, .inl (cy 0, 48, .inl x0_12)), (a0 13, .inl (cy 0, 64, .inl x0_13)), (o1, .inr (9, fs_Valley a1 g1 h1)), (a1 5, .inl (cy 0, 11, .inl x1_5)), (a1 6, .inl (cy 0, 11, .inl x1_6)), (a1 14, .inl (cy 0, 4, .inl x1_14)), (o2, .inr (0, fs_Bounds a2 g2 h2)), (a2 1, .inl (cy 0, 4, .inl x2_1)), (a2 3, .inl (cy 0, 4, .inl x2_3)), (a2 4, .inl (cy 0, 48, .inl x2_4)), (a2 5, .inl (cy 0, 48, .inl x2_5))]
def rm_Sets_seek : Room := { frames := 18, cells := 0, slots := 0, locals := 432 }
theorem rm_ok_Sets_seek_Sets_anyCanBe : rm_Sets_anyCanBe.cells = 0 ∧ rm_Sets_anyCanBe.slots = 0 ∧ rm_Sets_anyCanBe.frames + 1 ≤ rm_Sets_seek.frames ∧ 8 + (3 + 11) + rm_Sets_anyCanBe.locals ≤ rm_Sets_seek.locals := by decide
theorem rm_ok_Sets_seek_Sets_begin : rm_Sets_begin.cells = 0 ∧ rm_Sets_begin.slots = 0 ∧ rm_Sets_begin.frames + 1 ≤ rm_Sets_seek.frames ∧ 8 + (4 + 11) + rm_Sets_begin.locals ≤ rm_Sets_seek.locals := by decide
theorem rm_ok_Sets_seek_Sets_choose : (rm_Sets_choose 14).cells = 0 ∧ (rm_Sets_choose 14).slots = 0 ∧ (rm_Sets_choose 14).frames + 1 ≤ rm_Sets_seek.frames ∧ 8 + (4 + 11) + (rm_Sets_choose 14).locals ≤ rm_Sets_seek.locals := by decide
theorem rm_ok_Sets_seek_Sets_spread : rm_Sets_spread.cells = 0 ∧ rm_Sets_spread.slots = 0 ∧ rm_Sets_spread.frames + 1 ≤ rm_Sets_seek.frames ∧ 8 + (4 + 11) + rm_Sets_spread.locals ≤ rm_Sets_seek.locals := by decide
theorem rm_ok_Sets_seek_Sets_weigh : rm_Sets_weigh.cells = 0 ∧ rm_Sets_weigh.slots = 0 ∧ rm_Sets_weigh.frames + 1 ≤ rm_Sets_seek.frames ∧ 8 + (8 + 11) + rm_Sets_weigh.locals ≤ rm_Sets_seek.locals := by decide
set_option maxHeartbeats 4000000 in
set_option maxRecDepth 100000 in
theorem k_Sets_seek_b138 {p : Program} {l : Launch} {e : Env} {s : State} {m : MethodId} {args : Array Value} {below : List Frame} {meth : Method} {c : Code} {dC : Nat → ClassId} {dI : Nat → Nat → Nat} {cy : Nat → ClassId} {A : Nat → Prop} {o0 : Nat} {a0 : Nat → Nat} {o1 : Nat} {a1 : Nat → Nat} {o2 : Nat} {a2 : Nat → Nat} {N : Nat} {y : zSt} (C0 : zCx p s m args meth c cX7_seek 5 none RX7 (dC, dI) cy) (s0 : zSt) (s1 : zSt) (s2 : zSt) (t1 : Int32) (hA : ∀ q, s.heap.size ≤ q → A q) {H : Heap} {locs : List Loc} (hP : va_P (dC, dI) vwCl (wd_Sets_seek cy o0 a0 (zI s0) (zL s0) (zA s0 8) (zA s0 9) (zA s0 10) (zA s0 11) (zA s0 12) (zA s0 13) o1 a1 (zI s1) (zL s1) (zA s1 5) (zA s1 6) (zA s1 14) o2 a2 (zI s2) (zL s2) (zA s2 1) (zA s2 3) (zA s2 4) (zA s2 5)) H) (hD : va_D A (wd_Sets_seek cy o0 a0 (zI s0) (zL s0) (zA s0 8) (zA s0 9) (zA s0 10) (zA s0 11) (zA s0 12) (zA s0 13) o1 a1 (zI s1) (zL s1) (zA s1 5) (zA s1 6) (zA s1 14) o2 a2 (zI s2) (zL s2) (zA s2 1) (zA s2 3) (zA s2 4) (zA s2 5))) (hS : va_S A s.heap H locs) (hf : Sets_seek_b138 N s0 s1 s2 t1 = some y) (ls : Array Slot) (hl : lv_has ls 5 [(0, .ref o0), (1, .ref o1)]) : W p l e rm_Sets_seek s m args below meth c H locs 0 0 (MQ below (zQv (dC, dI) cy (wd_Sets_seek cy o0 a0 (zI y) (zL y) (zA y 8) (zA y 9) (zA y 10) (zA y 11) (zA y 12) (zA y 13) o1 a1 (zI s1) (zL s1) (zA s1 5) (zA s1 6) (zA s1 14) o2 a2 (zI s2) (zL s2) (zA s2 1) (zA s2 3) (zA s2 4) (zA s2 5)) A) args s 0 0 A) (F0 m 138 ls [.int t1, .ref o0]) := by
  obtain ⟨hx, hb, hr, hml, hown, hT, hk, hK⟩ := id C0
  refine zput (fs' := fs_Sets a0 (upd (zI s0) 2 t1) (zL s0)) (ws' := (wd_Sets_seek cy o0 a0 (upd (zI s0) 2 t1) (zL s0) (zA s0 8) (zA s0 9) (zA s0 10) (zA s0 11) (zA s0 12) (zA s0 13) o1 a1 (zI s1) (zL s1) (zA s1 5) (zA s1 6) (zA s1 14) o2 a2 (zI s2) (zL s2) (zA s2 1) (zA s2 3) (zA s2 4) (zA s2 5))) hx hb hown hT hK hP hD hS inX7 rfl smX7 tyX7_ok nmX7 0 rfl 2 (by decide) tb_284 rfl rfl rfl (Nat.le_of_ble_eq_true rfl) rfl rfl dX7_seek_138 (fun H locs hP hD hS => ?_)
  refine lv_aload_n hx hb dX7_seek_141 rfl (lv_at hl 0 rfl) ?_
  refine lv_dup hx hb dX7_seek_142 rfl ?_
  refine zget (v := .int (zI s0 0)) hx hb hown hT hK hP inX7 rfl smX7 0 rfl 0 (by decide) tb_280 rfl dX7_seek_143 ?_
  refine lv_aload_n hx hb dX7_seek_146 rfl (lv_at hl 1 rfl) ?_
  refine zget (v := .int (zI s1 3)) hx hb hown hT hK hP inX9 rfl smX9 7 rfl 3 (by decide) tb_104 rfl dX7_seek_147 ?_
  refine lv_aload_n hx hb dX7_seek_150 rfl (lv_at hl 0 rfl) ?_
  refine zget (v := .int (zI s0 7)) hx hb hown hT hK hP inX7 rfl smX7 0 rfl 7 (by decide) tb_293 rfl dX7_seek_151 ?_
  refine lv_isub hx hb dX7_seek_154 ?_
  refine lv_ishl hx hb dX7_seek_155 ?_
  refine zput (fs' := fs_Sets a0 (upd (upd (zI s0) 2 t1) 0 ((zI s0 0) <<< (((zI s1 3) - (zI s0 7)) &&& 31))) (zL s0)) (ws' := (wd_Sets_seek cy o0 a0 (upd (upd (zI s0) 2 t1) 0 ((zI s0 0) <<< (((zI s1 3) - (zI s0 7)) &&& 31))) (zL s0) (zA s0 8) (zA s0 9) (zA s0 10) (zA s0 11) (zA s0 12) (zA s0 13) o1 a1 (zI s1) (zL s1) (zA s1 5) (zA s1 6) (zA s1 14) o2 a2 (zI s2) (zL s2) (zA s2 1) (zA s2 3) (zA s2 4) (zA s2 5))) hx hb hown hT hK hP hD hS inX7 rfl smX7 tyX7_ok nmX7 0 rfl 0 (by decide) tb_280 rfl rfl rfl (Nat.le_of_ble_eq_true rfl) rfl rfl dX7_seek_156 (fun H locs hP hD hS => ?_)
  cases hf
  exact zewv hx hb hr hk hK hP hD hS dX7_seek_159
set_option maxHeartbeats 4000000 in
set_option maxRecDepth 100000 in
theorem k_Sets_seek_b115 {p : Program} {l : Launch} {e : Env} {s : State} {m : MethodId} {args : Array Value} {below : List Frame} {meth : Method} {c : Code} {dC : Nat → ClassId} {dI : Nat → Nat → Nat} {cy : Nat → ClassId} {A : Nat → Prop} {o0 : Nat} {a0 : Nat → Nat} {o1 : Nat} {a1 : Nat → Nat} {o2 : Nat} {a2 : Nat → Nat} {N : Nat} {y : zSt} (C0 : zCx p s m args meth c cX7_seek 5 none RX7 (dC, dI) cy) (s0 : zSt) (s1 : zSt) (s2 : zSt) (t1 : Int32) (hA : ∀ q, s.heap.size ≤ q → A q) {H : Heap} {locs : List Loc} (hP : va_P (dC, dI) vwCl (wd_Sets_seek cy o0 a0 (zI s0) (zL s0) (zA s0 8) (zA s0 9) (zA s0 10) (zA s0 11) (zA s0 12) (zA s0 13) o1 a1 (zI s1) (zL s1) (zA s1 5) (zA s1 6) (zA s1 14) o2 a2 (zI s2) (zL s2) (zA s2 1) (zA s2 3) (zA s2 4) (zA s2 5)) H) (hD : va_D A (wd_Sets_seek cy o0 a0 (zI s0) (zL s0) (zA s0 8) (zA s0 9) (zA s0 10) (zA s0 11) (zA s0 12) (zA s0 13) o1 a1 (zI s1) (zL s1) (zA s1 5) (zA s1 6) (zA s1 14) o2 a2 (zI s2) (zL s2) (zA s2 1) (zA s2 3) (zA s2 4) (zA s2 5))) (hS : va_S A s.heap H locs) (hf : Sets_seek_b115 N s0 s1 s2 t1 = some y) (ls : Array Slot) (hl : lv_has ls 5 [(0, .ref o0), (1, .ref o1)]) : W p l e rm_Sets_seek s m args below meth c H locs 0 0 (MQ below (zQv (dC, dI) cy (wd_Sets_seek cy o0 a0 (zI y) (zL y) (zA y 8) (zA y 9) (zA y 10) (zA y 11) (zA y 12) (zA y 13) o1 a1 (zI s1) (zL s1) (zA s1 5) (zA s1 6) (zA s1 14) o2 a2 (zI s2) (zL s2) (zA s2 1) (zA s2 3) (zA s2 4) (zA s2 5)) A) args s 0 0 A) (F0 m 115 ls [.int t1, .ref o0]) := by
  obtain ⟨hx, hb, hr, hml, hown, hT, hk, hK⟩ := id C0
  refine zput (fs' := fs_Sets a0 (upd (zI s0) 1 t1) (zL s0)) (ws' := (wd_Sets_seek cy o0 a0 (upd (zI s0) 1 t1) (zL s0) (zA s0 8) (zA s0 9) (zA s0 10) (zA s0 11) (zA s0 12) (zA s0 13) o1 a1 (zI s1) (zL s1) (zA s1 5) (zA s1 6) (zA s1 14) o2 a2 (zI s2) (zL s2) (zA s2 1) (zA s2 3) (zA s2 4) (zA s2 5))) hx hb hown hT hK hP hD hS inX7 rfl smX7 tyX7_ok nmX7 0 rfl 1 (by decide) tb_282 rfl rfl rfl (Nat.le_of_ble_eq_true rfl) rfl rfl dX7_seek_115 (fun H locs hP hD hS => ?_)
  refine lv_aload_n hx hb dX7_seek_118 rfl (lv_at hl 0 rfl) ?_
  refine lv_aload_n hx hb dX7_seek_119 rfl (lv_at hl 0 rfl) ?_
  refine zget (v := .int (zI s0 0)) hx hb hown hT hK hP inX7 rfl smX7 0 rfl 0 (by decide) tb_280 rfl dX7_seek_120 ?_
  refine lv_if_ne (tgt := 130) hx hb dX7_seek_123 (by decide) (fun hb_1 => ?_) (fun hb_1 => ?_)
  · have hf := zif_f hb_1 hf
    refine lv_aload_n hx hb dX7_seek_130 rfl (lv_at hl 0 rfl) ?_
    refine lv_aload_n hx hb dX7_seek_131 rfl (lv_at hl 0 rfl) ?_
    refine zget (v := .int (zI s0 2)) hx hb hown hT hK hP inX7 rfl smX7 0 rfl 2 (by decide) tb_284 rfl dX7_seek_132 ?_
    obtain ⟨z2, hc3, hf⟩ := zbd_some hf
    refine zri (zV (As := [.int (zI s0 2)]) hx hb hml hown hT hl.1 (c_Sets_spread o0 a0 (zpI s0 1 t1) (zI s0 2) hc3) zY_Sets_spread tb_823 (zpR hK hP [0, 1] rfl 0 7 rfl rfl rfl) rm_ok_Sets_seek_Sets_spread rfl rfl (Nat.le_of_ble_eq_true rfl) dX7_seek_135 ⟨Nat.zero_le _, Nat.zero_le _⟩) ?_
    exact k_Sets_seek_b138 C0 (zpI s0 1 t1) s1 s2 z2  hA hP hD hS hf _ (lv_sub hl [0, 1] rfl)
  · have hf := zif_t hb_1 hf
    refine lv_iconst (v := 0) hx hb dX7_seek_126 (by decide) ?_
    refine lv_goto (tgt := 138) hx hb dX7_seek_127 (by decide) ?_
    exact k_Sets_seek_b138 C0 (zpI s0 1 t1) s1 s2 0  hA hP hD hS hf _ (lv_sub hl [0, 1] rfl)
set_option maxHeartbeats 4000000 in
set_option maxRecDepth 100000 in
theorem k_Sets_seek_b89 {p : Program} {l : Launch} {e : Env} {s : State} {m : MethodId} {args : Array Value} {below : List Frame} {meth : Method} {c : Code} {dC : Nat → ClassId} {dI : Nat → Nat → Nat} {cy : Nat → ClassId} {A : Nat → Prop} {o0 : Nat} {a0 : Nat → Nat} {o1 : Nat} {a1 : Nat → Nat} {o2 : Nat} {a2 : Nat → Nat} {N : Nat} {kh9 : zSt → Int32 → Option (zSt)} {y : zSt} (C0 : zCx p s m args meth c cX7_seek 5 none RX7 (dC, dI) cy) (s0 : zSt) (s1 : zSt) (s2 : zSt) (v3 : Int32) (v4 : Int32) (hk9 : ∀ (s0 : zSt) (v4 : Int32) {H : Heap} {locs : List Loc} (_ : va_P (dC, dI) vwCl (wd_Sets_seek cy o0 a0 (zI s0) (zL s0) (zA s0 8) (zA s0 9) (zA s0 10) (zA s0 11) (zA s0 12) (zA s0 13) o1 a1 (zI s1) (zL s1) (zA s1 5) (zA s1 6) (zA s1 14) o2 a2 (zI s2) (zL s2) (zA s2 1) (zA s2 3) (zA s2 4) (zA s2 5)) H) (_ : va_D A (wd_Sets_seek cy o0 a0 (zI s0) (zL s0) (zA s0 8) (zA s0 9) (zA s0 10) (zA s0 11) (zA s0 12) (zA s0 13) o1 a1 (zI s1) (zL s1) (zA s1 5) (zA s1 6) (zA s1 14) o2 a2 (zI s2) (zL s2) (zA s2 1) (zA s2 3) (zA s2 4) (zA s2 5))) (_ : va_S A s.heap H locs) (_ : kh9 s0 v4 = some y) (ls : Array Slot) (_ : lv_has ls 5 [(0, .ref o0), (1, .ref o1), (2, .ref o2), (3, .int v3), (4, .int v4)]), W p l e rm_Sets_seek s m args below meth c H locs 0 0 (MQ below (zQv (dC, dI) cy (wd_Sets_seek cy o0 a0 (zI y) (zL y) (zA y 8) (zA y 9) (zA y 10) (zA y 11) (zA y 12) (zA y 13) o1 a1 (zI s1) (zL s1) (zA s1 5) (zA s1 6) (zA s1 14) o2 a2 (zI s2) (zL s2) (zA s2 1) (zA s2 3) (zA s2 4) (zA s2 5)) A) args s 0 0 A) (F0 m 9 ls [])) (hA : ∀ q, s.heap.size ≤ q → A q) {H : Heap} {locs : List Loc} (hP : va_P (dC, dI) vwCl (wd_Sets_seek cy o0 a0 (zI s0) (zL s0) (zA s0 8) (zA s0 9) (zA s0 10) (zA s0 11) (zA s0 12) (zA s0 13) o1 a1 (zI s1) (zL s1) (zA s1 5) (zA s1 6) (zA s1 14) o2 a2 (zI s2) (zL s2) (zA s2 1) (zA s2 3) (zA s2 4) (zA s2 5)) H) (hD : va_D A (wd_Sets_seek cy o0 a0 (zI s0) (zL s0) (zA s0 8) (zA s0 9) (zA s0 10) (zA s0 11) (zA s0 12) (zA s0 13) o1 a1 (zI s1) (zL s1) (zA s1 5) (zA s1 6) (zA s1 14) o2 a2 (zI s2) (zL s2) (zA s2 1) (zA s2 3) (zA s2 4) (zA s2 5))) (hS : va_S A s.heap H locs) (hf : Sets_seek_b89 N kh9 s0 s1 s2 v3 v4 = some y) (ls : Array Slot) (hl : lv_has ls 5 [(0, .ref o0), (1, .ref o1), (2, .ref o2), (3, .int v3), (4, .int v4)]) : W p l e rm_Sets_seek s m args below meth c H locs 0 0 (MQ below (zQv (dC, dI) cy (wd_Sets_seek cy o0 a0 (zI y) (zL y) (zA y 8) (zA y 9) (zA y 10) (zA y 11) (zA y 12) (zA y 13) o1 a1 (zI s1) (zL s1) (zA s1 5) (zA s1 6) (zA s1 14) o2 a2 (zI s2) (zL s2) (zA s2 1) (zA s2 3) (zA s2 4) (zA s2 5)) A) args s 0 0 A) (F0 m 89 ls []) := by
  obtain ⟨hx, hb, hr, hml, hown, hT, hk, hK⟩ := id C0
  refine lv_iinc (v := v4 + 1) (lv' := [(4, .int (v4 + 1)), (0, .ref o0), (1, .ref o1), (2, .ref o2), (3, .int v3)]) hx hb dX7_seek_89 hl (k := 4) rfl rfl (by decide) rfl (fun ls hl => ?_)
  refine lv_goto (tgt := 9) hx hb dX7_seek_92 (by decide) ?_
  exact hk9 s0 (v4 + 1) hP hD hS hf _ (lv_sub hl [1, 2, 3, 4, 0] rfl)
set_option maxHeartbeats 4000000 in
set_option maxRecDepth 100000 in
theorem k_Sets_seek_b80 {p : Program} {l : Launch} {e : Env} {s : State} {m : MethodId} {args : Array Value} {below : List Frame} {meth : Method} {c : Code} {dC : Nat → ClassId} {dI : Nat → Nat → Nat} {cy : Nat → ClassId} {A : Nat → Prop} {o0 : Nat} {a0 : Nat → Nat} {o1 : Nat} {a1 : Nat → Nat} {o2 : Nat} {a2 : Nat → Nat} {N : Nat} {kh9 : zSt → Int32 → Option (zSt)} {y : zSt} (C0 : zCx p s m args meth c cX7_seek 5 none RX7 (dC, dI) cy) (s0 : zSt) (s1 : zSt) (s2 : zSt) (v3 : Int32) (v4 : Int32) (t1 : Int32) (hk9 : ∀ (s0 : zSt) (v4 : Int32) {H : Heap} {locs : List Loc} (_ : va_P (dC, dI) vwCl (wd_Sets_seek cy o0 a0 (zI s0) (zL s0) (zA s0 8) (zA s0 9) (zA s0 10) (zA s0 11) (zA s0 12) (zA s0 13) o1 a1 (zI s1) (zL s1) (zA s1 5) (zA s1 6) (zA s1 14) o2 a2 (zI s2) (zL s2) (zA s2 1) (zA s2 3) (zA s2 4) (zA s2 5)) H) (_ : va_D A (wd_Sets_seek cy o0 a0 (zI s0) (zL s0) (zA s0 8) (zA s0 9) (zA s0 10) (zA s0 11) (zA s0 12) (zA s0 13) o1 a1 (zI s1) (zL s1) (zA s1 5) (zA s1 6) (zA s1 14) o2 a2 (zI s2) (zL s2) (zA s2 1) (zA s2 3) (zA s2 4) (zA s2 5))) (_ : va_S A s.heap H locs) (_ : kh9 s0 v4 = some y) (ls : Array Slot) (_ : lv_has ls 5 [(0, .ref o0), (1, .ref o1), (2, .ref o2), (3, .int v3), (4, .int v4)]), W p l e rm_Sets_seek s m args below meth c H locs 0 0 (MQ below (zQv (dC, dI) cy (wd_Sets_seek cy o0 a0 (zI y) (zL y) (zA y 8) (zA y 9) (zA y 10) (zA y 11) (zA y 12) (zA y 13) o1 a1 (zI s1) (zL s1) (zA s1 5) (zA s1 6) (zA s1 14) o2 a2 (zI s2) (zL s2) (zA s2 1) (zA s2 3) (zA s2 4) (zA s2 5)) A) args s 0 0 A) (F0 m 9 ls [])) (hA : ∀ q, s.heap.size ≤ q → A q) {H : Heap} {locs : List Loc} (hP : va_P (dC, dI) vwCl (wd_Sets_seek cy o0 a0 (zI s0) (zL s0) (zA s0 8) (zA s0 9) (zA s0 10) (zA s0 11) (zA s0 12) (zA s0 13) o1 a1 (zI s1) (zL s1) (zA s1 5) (zA s1 6) (zA s1 14) o2 a2 (zI s2) (zL s2) (zA s2 1) (zA s2 3) (zA s2 4) (zA s2 5)) H) (hD : va_D A (wd_Sets_seek cy o0 a0 (zI s0) (zL s0) (zA s0 8) (zA s0 9) (zA s0 10) (zA s0 11) (zA s0 12) (zA s0 13) o1 a1 (zI s1) (zL s1) (zA s1 5) (zA s1 6) (zA s1 14) o2 a2 (zI s2) (zL s2) (zA s2 1) (zA s2 3) (zA s2 4) (zA s2 5))) (hS : va_S A s.heap H locs) (hf : Sets_seek_b80 N kh9 s0 s1 s2 v3 v4 t1 = some y) (ls : Array Slot) (hl : lv_has ls 5 [(0, .ref o0), (1, .ref o1), (2, .ref o2), (3, .int v3), (4, .int v4)]) : W p l e rm_Sets_seek s m args below meth c H locs 0 0 (MQ below (zQv (dC, dI) cy (wd_Sets_seek cy o0 a0 (zI y) (zL y) (zA y 8) (zA y 9) (zA y 10) (zA y 11) (zA y 12) (zA y 13) o1 a1 (zI s1) (zL s1) (zA s1 5) (zA s1 6) (zA s1 14) o2 a2 (zI s2) (zL s2) (zA s2 1) (zA s2 3) (zA s2 4) (zA s2 5)) A) args s 0 0 A) (F0 m 80 ls [.int t1, .ref o0]) := by
  obtain ⟨hx, hb, hr, hml, hown, hT, hk, hK⟩ := id C0
  refine zput (fs' := fs_Sets a0 (upd (zI s0) 4 t1) (zL s0)) (ws' := (wd_Sets_seek cy o0 a0 (upd (zI s0) 4 t1) (zL s0) (zA s0 8) (zA s0 9) (zA s0 10) (zA s0 11) (zA s0 12) (zA s0 13) o1 a1 (zI s1) (zL s1) (zA s1 5) (zA s1 6) (zA s1 14) o2 a2 (zI s2) (zL s2) (zA s2 1) (zA s2 3) (zA s2 4) (zA s2 5))) hx hb hown hT hK hP hD hS inX7 rfl smX7 tyX7_ok nmX7 0 rfl 4 (by decide) tb_288 rfl rfl rfl (Nat.le_of_ble_eq_true rfl) rfl rfl dX7_seek_80 (fun H locs hP hD hS => ?_)
  refine lv_aload_n hx hb dX7_seek_83 rfl (lv_at hl 0 rfl) ?_
  refine lv_iload hx hb dX7_seek_84 (lv_at hl 4 rfl) ?_
  refine zput (fs' := fs_Sets a0 (upd (upd (zI s0) 4 t1) 5 v4) (zL s0)) (ws' := (wd_Sets_seek cy o0 a0 (upd (upd (zI s0) 4 t1) 5 v4) (zL s0) (zA s0 8) (zA s0 9) (zA s0 10) (zA s0 11) (zA s0 12) (zA s0 13) o1 a1 (zI s1) (zL s1) (zA s1 5) (zA s1 6) (zA s1 14) o2 a2 (zI s2) (zL s2) (zA s2 1) (zA s2 3) (zA s2 4) (zA s2 5))) hx hb hown hT hK hP hD hS inX7 rfl smX7 tyX7_ok nmX7 0 rfl 5 (by decide) tb_290 rfl rfl rfl (Nat.le_of_ble_eq_true rfl) rfl rfl dX7_seek_86 (fun H locs hP hD hS => ?_)
  exact k_Sets_seek_b89 C0 (zpI (zpI s0 4 t1) 5 v4) s1 s2 v3 v4 hk9 hA hP hD hS hf _ (lv_sub hl [0, 1, 2, 3, 4] rfl)
set_option maxHeartbeats 4000000 in
set_option maxRecDepth 100000 in
theorem k_Sets_seek_b45 {p : Program} {l : Launch} {e : Env} {s : State} {m : MethodId} {args : Array Value} {below : List Frame} {meth : Method} {c : Code} {dC : Nat → ClassId} {dI : Nat → Nat → Nat} {cy : Nat → ClassId} {A : Nat → Prop} {o0 : Nat} {a0 : Nat → Nat} {o1 : Nat} {a1 : Nat → Nat} {o2 : Nat} {a2 : Nat → Nat} {N : Nat} {kh9 : zSt → Int32 → Option (zSt)} {y : zSt} (C0 : zCx p s m args meth c cX7_seek 5 none RX7 (dC, dI) cy) (s0 : zSt) (s1 : zSt) (s2 : zSt) (v3 : Int32) (v4 : Int32) (hk9 : ∀ (s0 : zSt) (v4 : Int32) {H : Heap} {locs : List Loc} (_ : va_P (dC, dI) vwCl (wd_Sets_seek cy o0 a0 (zI s0) (zL s0) (zA s0 8) (zA s0 9) (zA s0 10) (zA s0 11) (zA s0 12) (zA s0 13) o1 a1 (zI s1) (zL s1) (zA s1 5) (zA s1 6) (zA s1 14) o2 a2 (zI s2) (zL s2) (zA s2 1) (zA s2 3) (zA s2 4) (zA s2 5)) H) (_ : va_D A (wd_Sets_seek cy o0 a0 (zI s0) (zL s0) (zA s0 8) (zA s0 9) (zA s0 10) (zA s0 11) (zA s0 12) (zA s0 13) o1 a1 (zI s1) (zL s1) (zA s1 5) (zA s1 6) (zA s1 14) o2 a2 (zI s2) (zL s2) (zA s2 1) (zA s2 3) (zA s2 4) (zA s2 5))) (_ : va_S A s.heap H locs) (_ : kh9 s0 v4 = some y) (ls : Array Slot) (_ : lv_has ls 5 [(0, .ref o0), (1, .ref o1), (2, .ref o2), (3, .int v3), (4, .int v4)]), W p l e rm_Sets_seek s m args below meth c H locs 0 0 (MQ below (zQv (dC, dI) cy (wd_Sets_seek cy o0 a0 (zI y) (zL y) (zA y 8) (zA y 9) (zA y 10) (zA y 11) (zA y 12) (zA y 13) o1 a1 (zI s1) (zL s1) (zA s1 5) (zA s1 6) (zA s1 14) o2 a2 (zI s2) (zL s2) (zA s2 1) (zA s2 3) (zA s2 4) (zA s2 5)) A) args s 0 0 A) (F0 m 9 ls [])) (hA : ∀ q, s.heap.size ≤ q → A q) {H : Heap} {locs : List Loc} (hP : va_P (dC, dI) vwCl (wd_Sets_seek cy o0 a0 (zI s0) (zL s0) (zA s0 8) (zA s0 9) (zA s0 10) (zA s0 11) (zA s0 12) (zA s0 13) o1 a1 (zI s1) (zL s1) (zA s1 5) (zA s1 6) (zA s1 14) o2 a2 (zI s2) (zL s2) (zA s2 1) (zA s2 3) (zA s2 4) (zA s2 5)) H) (hD : va_D A (wd_Sets_seek cy o0 a0 (zI s0) (zL s0) (zA s0 8) (zA s0 9) (zA s0 10) (zA s0 11) (zA s0 12) (zA s0 13) o1 a1 (zI s1) (zL s1) (zA s1 5) (zA s1 6) (zA s1 14) o2 a2 (zI s2) (zL s2) (zA s2 1) (zA s2 3) (zA s2 4) (zA s2 5))) (hS : va_S A s.heap H locs) (hf : Sets_seek_b45 N kh9 s0 s1 s2 v3 v4 = some y) (ls : Array Slot) (hl : lv_has ls 5 [(0, .ref o0), (1, .ref o1), (2, .ref o2), (3, .int v3), (4, .int v4)]) : W p l e rm_Sets_seek s m args below meth c H locs 0 0 (MQ below (zQv (dC, dI) cy (wd_Sets_seek cy o0 a0 (zI y) (zL y) (zA y 8) (zA y 9) (zA y 10) (zA y 11) (zA y 12) (zA y 13) o1 a1 (zI s1) (zL s1) (zA s1 5) (zA s1 6) (zA s1 14) o2 a2 (zI s2) (zL s2) (zA s2 1) (zA s2 3) (zA s2 4) (zA s2 5)) A) args s 0 0 A) (F0 m 45 ls []) := by
  obtain ⟨hx, hb, hr, hml, hown, hT, hk, hK⟩ := id C0
  refine lv_aload_n hx hb dX7_seek_45 rfl (lv_at hl 0 rfl) ?_
  refine zget (v := .int (zI s0 6)) hx hb hown hT hK hP inX7 rfl smX7 0 rfl 6 (by decide) tb_292 rfl dX7_seek_46 ?_
  refine lv_if_eq (tgt := 89) hx hb dX7_seek_49 (by decide) (fun hb_1 => ?_) (fun hb_1 => ?_)
  · have hf := zif_t hb_1 hf
    exact k_Sets_seek_b89 C0 s0 s1 s2 v3 v4 hk9 hA hP hD hS hf _ (lv_sub hl [0, 1, 2, 3, 4] rfl)
  · have hf := zif_f hb_1 hf
    refine lv_aload_n hx hb dX7_seek_52 rfl (lv_at hl 0 rfl) ?_
    refine lv_dup hx hb dX7_seek_53 rfl ?_
    refine zget (v := .int (zI s0 3)) hx hb hown hT hK hP inX7 rfl smX7 0 rfl 3 (by decide) tb_286 rfl dX7_seek_54 ?_
    refine lv_iconst (v := 1) hx hb dX7_seek_57 (by decide) ?_
    refine lv_iadd hx hb dX7_seek_58 ?_
    refine zput (fs' := fs_Sets a0 (upd (zI s0) 3 ((zI s0 3) + 1)) (zL s0)) (ws' := (wd_Sets_seek cy o0 a0 (upd (zI s0) 3 ((zI s0 3) + 1)) (zL s0) (zA s0 8) (zA s0 9) (zA s0 10) (zA s0 11) (zA s0 12) (zA s0 13) o1 a1 (zI s1) (zL s1) (zA s1 5) (zA s1 6) (zA s1 14) o2 a2 (zI s2) (zL s2) (zA s2 1) (zA s2 3) (zA s2 4) (zA s2 5))) hx hb hown hT hK hP hD hS inX7 rfl smX7 tyX7_ok nmX7 0 rfl 3 (by decide) tb_286 rfl rfl rfl (Nat.le_of_ble_eq_true rfl) rfl rfl dX7_seek_59 (fun H locs hP hD hS => ?_)
    refine lv_aload_n hx hb dX7_seek_62 rfl (lv_at hl 0 rfl) ?_
    refine lv_aload_n hx hb dX7_seek_63 rfl (lv_at hl 0 rfl) ?_
    refine zget (v := .int (zI s0 4)) hx hb hown hT hK hP inX7 rfl smX7 0 rfl 4 (by decide) tb_288 rfl dX7_seek_64 ?_
    refine lv_iconst (v := (-1)) hx hb dX7_seek_67 (by decide) ?_
    refine lv_icmp_ne (tgt := 76) hx hb dX7_seek_68 (by decide) (fun hb_2 => ?_) (fun hb_2 => ?_)
    · have hf := zif_f hb_2 hf
      refine lv_aload_n hx hb dX7_seek_76 rfl (lv_at hl 0 rfl) ?_
      refine zget (v := .int (zI s0 4)) hx hb hown hT hK hP inX7 rfl smX7 0 rfl 4 (by decide) tb_288 rfl dX7_seek_77 ?_
      exact k_Sets_seek_b80 C0 (zpI s0 3 ((zI s0 3) + 1)) s1 s2 v3 v4 (zI s0 4) hk9 hA hP hD hS hf _ (lv_sub hl [0, 1, 2, 3, 4] rfl)
    · have hf := zif_t hb_2 hf
      refine lv_iload hx hb dX7_seek_71 (lv_at hl 4 rfl) ?_
      refine lv_goto (tgt := 80) hx hb dX7_seek_73 (by decide) ?_
      exact k_Sets_seek_b80 C0 (zpI s0 3 ((zI s0 3) + 1)) s1 s2 v3 v4 v4 hk9 hA hP hD hS hf _ (lv_sub hl [0, 1, 2, 3, 4] rfl)
set_option maxHeartbeats 4000000 in
set_option maxRecDepth 100000 in
theorem k_Sets_seek_b9 {p : Program} {l : Launch} {e : Env} {s : State} {m : MethodId} {args : Array Value} {below : List Frame} {meth : Method} {c : Code} {dC : Nat → ClassId} {dI : Nat → Nat → Nat} {cy : Nat → ClassId} {A : Nat → Prop} {o0 : Nat} {a0 : Nat → Nat} {o1 : Nat} {a1 : Nat → Nat} {o2 : Nat} {a2 : Nat → Nat} {N : Nat} {kh9 : zSt → Int32 → Option (zSt)} {y : zSt} (C0 : zCx p s m args meth c cX7_seek 5 none RX7 (dC, dI) cy) (s0 : zSt) (s1 : zSt) (s2 : zSt) (v3 : Int32) (v4 : Int32) (hk9 : ∀ (s0 : zSt) (v4 : Int32) {H : Heap} {locs : List Loc} (_ : va_P (dC, dI) vwCl (wd_Sets_seek cy o0 a0 (zI s0) (zL s0) (zA s0 8) (zA s0 9) (zA s0 10) (zA s0 11) (zA s0 12) (zA s0 13) o1 a1 (zI s1) (zL s1) (zA s1 5) (zA s1 6) (zA s1 14) o2 a2 (zI s2) (zL s2) (zA s2 1) (zA s2 3) (zA s2 4) (zA s2 5)) H) (_ : va_D A (wd_Sets_seek cy o0 a0 (zI s0) (zL s0) (zA s0 8) (zA s0 9) (zA s0 10) (zA s0 11) (zA s0 12) (zA s0 13) o1 a1 (zI s1) (zL s1) (zA s1 5) (zA s1 6) (zA s1 14) o2 a2 (zI s2) (zL s2) (zA s2 1) (zA s2 3) (zA s2 4) (zA s2 5))) (_ : va_S A s.heap H locs) (_ : kh9 s0 v4 = some y) (ls : Array Slot) (_ : lv_has ls 5 [(0, .ref o0), (1, .ref o1), (2, .ref o2), (3, .int v3), (4, .int v4)]), W p l e rm_Sets_seek s m args below meth c H locs 0 0 (MQ below (zQv (dC, dI) cy (wd_Sets_seek cy o0 a0 (zI y) (zL y) (zA y 8) (zA y 9) (zA y 10) (zA y 11) (zA y 12) (zA y 13) o1 a1 (zI s1) (zL s1) (zA s1 5) (zA s1 6) (zA s1 14) o2 a2 (zI s2) (zL s2) (zA s2 1) (zA s2 3) (zA s2 4) (zA s2 5)) A) args s 0 0 A) (F0 m 9 ls [])) (hA : ∀ q, s.heap.size ≤ q → A q) {H : Heap} {locs : List Loc} (hP : va_P (dC, dI) vwCl (wd_Sets_seek cy o0 a0 (zI s0) (zL s0) (zA s0 8) (zA s0 9) (zA s0 10) (zA s0 11) (zA s0 12) (zA s0 13) o1 a1 (zI s1) (zL s1) (zA s1 5) (zA s1 6) (zA s1 14) o2 a2 (zI s2) (zL s2) (zA s2 1) (zA s2 3) (zA s2 4) (zA s2 5)) H) (hD : va_D A (wd_Sets_seek cy o0 a0 (zI s0) (zL s0) (zA s0 8) (zA s0 9) (zA s0 10) (zA s0 11) (zA s0 12) (zA s0 13) o1 a1 (zI s1) (zL s1) (zA s1 5) (zA s1 6) (zA s1 14) o2 a2 (zI s2) (zL s2) (zA s2 1) (zA s2 3) (zA s2 4) (zA s2 5))) (hS : va_S A s.heap H locs) (hf : Sets_seek_b9 N kh9 s0 s1 s2 v3 v4 = some y) (ls : Array Slot) (hl : lv_has ls 5 [(0, .ref o0), (1, .ref o1), (2, .ref o2), (3, .int v3), (4, .int v4)]) : W p l e rm_Sets_seek s m args below meth c H locs 0 0 (MQ below (zQv (dC, dI) cy (wd_Sets_seek cy o0 a0 (zI y) (zL y) (zA y 8) (zA y 9) (zA y 10) (zA y 11) (zA y 12) (zA y 13) o1 a1 (zI s1) (zL s1) (zA s1 5) (zA s1 6) (zA s1 14) o2 a2 (zI s2) (zL s2) (zA s2 1) (zA s2 3) (zA s2 4) (zA s2 5)) A) args s 0 0 A) (F0 m 9 ls []) := by
  obtain ⟨hx, hb, hr, hml, hown, hT, hk, hK⟩ := id C0
  refine lv_iload hx hb dX7_seek_9 (lv_at hl 4 rfl) ?_
  refine lv_bipush (v := 99) hx hb dX7_seek_11 (by decide) ?_
  refine lv_icmp_gt (tgt := 95) hx hb dX7_seek_13 (by decide) (fun hb_1 => ?_) (fun hb_1 => ?_)
  · have hf := zif_t hb_1 hf
    refine lv_aload_n hx hb dX7_seek_95 rfl (lv_at hl 0 rfl) ?_
    refine lv_aload_n hx hb dX7_seek_96 rfl (lv_at hl 0 rfl) ?_
    refine zget (v := .int (zI s0 0)) hx hb hown hT hK hP inX7 rfl smX7 0 rfl 0 (by decide) tb_280 rfl dX7_seek_97 ?_
    refine lv_if_ne (tgt := 107) hx hb dX7_seek_100 (by decide) (fun hb_2 => ?_) (fun hb_2 => ?_)
    · have hf := zif_f hb_2 hf
      refine lv_aload_n hx hb dX7_seek_107 rfl (lv_at hl 0 rfl) ?_
      refine lv_aload_n hx hb dX7_seek_108 rfl (lv_at hl 0 rfl) ?_
      refine zget (v := .int (zI s0 1)) hx hb hown hT hK hP inX7 rfl smX7 0 rfl 1 (by decide) tb_282 rfl dX7_seek_109 ?_
      obtain ⟨z3, hc4, hf⟩ := zbd_some hf
      refine zri (zV (As := [.int (zI s0 1)]) hx hb hml hown hT hl.1 (c_Sets_spread o0 a0 s0 (zI s0 1) hc4) zY_Sets_spread tb_823 (zpR hK hP [0, 1] rfl 0 7 rfl rfl rfl) rm_ok_Sets_seek_Sets_spread rfl rfl (Nat.le_of_ble_eq_true rfl) dX7_seek_112 ⟨Nat.zero_le _, Nat.zero_le _⟩) ?_
      exact k_Sets_seek_b115 C0 s0 s1 s2 z3  hA hP hD hS hf _ (lv_sub hl [0, 1] rfl)
    · have hf := zif_t hb_2 hf
      refine lv_iconst (v := 0) hx hb dX7_seek_103 (by decide) ?_
      refine lv_goto (tgt := 115) hx hb dX7_seek_104 (by decide) ?_
      exact k_Sets_seek_b115 C0 s0 s1 s2 0  hA hP hD hS hf _ (lv_sub hl [0, 1] rfl)
  · have hf := zif_f hb_1 hf
    refine lv_aload_n hx hb dX7_seek_16 rfl (lv_at hl 0 rfl) ?_
    refine lv_aload_n hx hb dX7_seek_17 rfl (lv_at hl 1 rfl) ?_
    refine lv_aload_n hx hb dX7_seek_18 rfl (lv_at hl 2 rfl) ?_
    refine lv_iload hx hb dX7_seek_19 (lv_at hl 4 rfl) ?_
    refine lv_iload_n hx hb dX7_seek_21 rfl (lv_at hl 3 rfl) ?_
    obtain ⟨z5, hc6, hf⟩ := zbd_some hf
    refine zwv (wr := [(a0 11, .inl (cy 0, 48, .inl (zA s0 11))), (a0 13, .inl (cy 0, 64, .inl (zA s0 13))), (a1 5, .inl (cy 0, 11, .inl (zA s1 5))), (a2 1, .inl (cy 0, 4, .inl (zA s2 1))), (a2 4, .inl (cy 0, 48, .inl (zA s2 4))), (a2 5, .inl (cy 0, 48, .inl (zA s2 5)))]) (ws' := (wd_Sets_seek cy o0 a0 (zI z5) (zL z5) (zA z5 8) (zA z5 9) (zA z5 10) (zA s0 11) (zA z5 12) (zA s0 13) o1 a1 (zI s1) (zL s1) (zA s1 5) (zA s1 6) (zA s1 14) o2 a2 (zI s2) (zL s2) (zA s2 1) (zA s2 3) (zA s2 4) (zA s2 5))) (zV (As := [.ref o1, .ref o2, .int v4, .int v3]) hx hb hml hown hT hl.1 (c_Sets_weigh o0 a0 s0 o1 a1 s1 o2 a2 s2 v4 v3 hc6) zY_Sets_weigh tb_794 (zpRw hK hP hD [0, 1, 2, 3, 5, 7, 9, 10, 11, 13] (by decide) rfl 0 7 rfl rfl rfl rfl) rm_ok_Sets_seek_Sets_weigh rfl rfl (Nat.le_of_ble_eq_true rfl) dX7_seek_22 ⟨Nat.zero_le _, Nat.zero_le _⟩) hP hD hS hA [0, 1, 2, 3, 5, 7, 9, 10, 11, 13] [4, 6, 8, 12, 14, 15] [6, 7, 8, 9, 0, 10, 1, 11, 2, 12, 13, 14, 3, 15, 4, 5] rfl rfl (by decide) (by decide) (by decide) rfl rfl (fun H locs hP hD hS => ?_)
    refine lv_aload_n hx hb dX7_seek_25 rfl (lv_at hl 0 rfl) ?_
    refine lv_iconst (v := 0) hx hb dX7_seek_26 (by decide) ?_
    refine zput (fs' := fs_Sets a0 (upd (zI z5) 6 0) (zL z5)) (ws' := (wd_Sets_seek cy o0 a0 (upd (zI z5) 6 0) (zL z5) (zA z5 8) (zA z5 9) (zA z5 10) (zA s0 11) (zA z5 12) (zA s0 13) o1 a1 (zI s1) (zL s1) (zA s1 5) (zA s1 6) (zA s1 14) o2 a2 (zI s2) (zL s2) (zA s2 1) (zA s2 3) (zA s2 4) (zA s2 5))) hx hb hown hT hK hP hD hS inX7 rfl smX7 tyX7_ok nmX7 0 rfl 6 (by decide) tb_292 rfl rfl rfl (Nat.le_of_ble_eq_true rfl) rfl rfl dX7_seek_27 (fun H locs hP hD hS => ?_)
    refine lv_aload_n hx hb dX7_seek_30 rfl (lv_at hl 0 rfl) ?_
    refine lv_aload_n hx hb dX7_seek_31 rfl (lv_at hl 2 rfl) ?_
    obtain ⟨z7, hc8, hf⟩ := zbd_some hf
    refine zri (zV (As := [.ref o2]) hx hb hml hown hT hl.1 (c_Sets_anyCanBe o0 a0 (zpI (zmg [11,13] z5 s0) 6 0) o2 a2 s2 hc8) zY_Sets_anyCanBe tb_803 (zpR hK hP [0, 4, 5, 11, 12, 13, 14, 15] rfl 0 7 rfl rfl rfl) rm_ok_Sets_seek_Sets_anyCanBe rfl rfl (Nat.le_of_ble_eq_true rfl) dX7_seek_32 ⟨Nat.zero_le _, Nat.zero_le _⟩) ?_
    refine lv_if_eq (tgt := 45) hx hb dX7_seek_35 (by decide) (fun hb_9 => ?_) (fun hb_9 => ?_)
    · have hf := zif_t hb_9 hf
      exact k_Sets_seek_b45 C0 (zpI (zmg [11,13] z5 s0) 6 0) s1 s2 v3 v4 hk9 hA hP hD hS hf _ (lv_sub hl [0, 1, 2, 3, 4] rfl)
    · have hf := zif_f hb_9 hf
      refine lv_aload_n hx hb dX7_seek_38 rfl (lv_at hl 0 rfl) ?_
      refine lv_iconst (v := 0) hx hb dX7_seek_39 (by decide) ?_
      refine lv_iconst (v := 0) hx hb dX7_seek_40 (by decide) ?_
      refine lv_aload_n hx hb dX7_seek_41 rfl (lv_at hl 2 rfl) ?_
      obtain ⟨z10, hc11, hf⟩ := zbd_some hf
      refine zwv (wr := [(a0 8, .inl (cy 0, 11, .inl (zA z5 8))), (o1, .inr (9, fs_Valley a1 (zI s1) (zL s1))), (a1 5, .inl (cy 0, 11, .inl (zA s1 5))), (a1 6, .inl (cy 0, 11, .inl (zA s1 6))), (a1 14, .inl (cy 0, 4, .inl (zA s1 14)))]) (ws' := (wd_Sets_seek cy o0 a0 (zI z10) (zL z10) (zA z5 8) (zA z10 9) (zA z10 10) (zA z10 11) (zA z10 12) (zA z10 13) o1 a1 (zI s1) (zL s1) (zA s1 5) (zA s1 6) (zA s1 14) o2 a2 (zI s2) (zL s2) (zA s2 1) (zA s2 3) (zA s2 4) (zA s2 5))) (zV (As := [.int 0, .int 0, .ref o2]) hx hb hml hown hT hl.1 (c_Sets_choose o0 a0 (zpI (zmg [11,13] z5 s0) 6 0) o2 a2 s2 0 0 hc11) zY_Sets_choose tb_811 (zpRw hK hP hD [0, 2, 3, 4, 5, 6, 11, 12, 13, 14, 15] (by decide) rfl 0 7 rfl rfl rfl rfl) rm_ok_Sets_seek_Sets_choose rfl rfl (Nat.le_of_ble_eq_true rfl) dX7_seek_42 ⟨Nat.zero_le _, Nat.zero_le _⟩) hP hD hS hA [0, 2, 3, 4, 5, 6, 11, 12, 13, 14, 15] [1, 7, 8, 9, 10] [5, 0, 6, 7, 8, 9, 10, 1, 2, 3, 4, 11, 12, 13, 14, 15] rfl rfl (by decide) (by decide) (by decide) rfl rfl (fun H locs hP hD hS => ?_)
      exact k_Sets_seek_b45 C0 (zmg [8] z10 (zpI (zmg [11,13] z5 s0) 6 0)) s1 s2 v3 v4 hk9 hA hP hD hS hf _ (lv_sub hl [0, 1, 2, 3, 4] rfl)
set_option maxHeartbeats 4000000 in
set_option maxRecDepth 100000 in
theorem k_Sets_seek_h9 {p : Program} {l : Launch} {e : Env} {s : State} {m : MethodId} {args : Array Value} {below : List Frame} {meth : Method} {c : Code} {dC : Nat → ClassId} {dI : Nat → Nat → Nat} {cy : Nat → ClassId} {A : Nat → Prop} {o0 : Nat} {a0 : Nat → Nat} {o1 : Nat} {a1 : Nat → Nat} {o2 : Nat} {a2 : Nat → Nat} {N : Nat} {y : zSt} (C0 : zCx p s m args meth c cX7_seek 5 none RX7 (dC, dI) cy) (s1 : zSt) (s2 : zSt) (v3 : Int32) (hA : ∀ q, s.heap.size ≤ q → A q) : ∀ (n : Nat) (s0 : zSt) (v4 : Int32) {H : Heap} {locs : List Loc} (hP : va_P (dC, dI) vwCl (wd_Sets_seek cy o0 a0 (zI s0) (zL s0) (zA s0 8) (zA s0 9) (zA s0 10) (zA s0 11) (zA s0 12) (zA s0 13) o1 a1 (zI s1) (zL s1) (zA s1 5) (zA s1 6) (zA s1 14) o2 a2 (zI s2) (zL s2) (zA s2 1) (zA s2 3) (zA s2 4) (zA s2 5)) H) (hD : va_D A (wd_Sets_seek cy o0 a0 (zI s0) (zL s0) (zA s0 8) (zA s0 9) (zA s0 10) (zA s0 11) (zA s0 12) (zA s0 13) o1 a1 (zI s1) (zL s1) (zA s1 5) (zA s1 6) (zA s1 14) o2 a2 (zI s2) (zL s2) (zA s2 1) (zA s2 3) (zA s2 4) (zA s2 5))) (hS : va_S A s.heap H locs) (hf : Sets_seek_h9 N s1 s2 v3 n s0 v4 = some y) (ls : Array Slot) (hl : lv_has ls 5 [(0, .ref o0), (1, .ref o1), (2, .ref o2), (3, .int v3), (4, .int v4)]), W p l e rm_Sets_seek s m args below meth c H locs 0 0 (MQ below (zQv (dC, dI) cy (wd_Sets_seek cy o0 a0 (zI y) (zL y) (zA y 8) (zA y 9) (zA y 10) (zA y 11) (zA y 12) (zA y 13) o1 a1 (zI s1) (zL s1) (zA s1 5) (zA s1 6) (zA s1 14) o2 a2 (zI s2) (zL s2) (zA s2 1) (zA s2 3) (zA s2 4) (zA s2 5)) A) args s 0 0 A) (F0 m 9 ls []) := by
  intro n
  induction n with
  | zero => intro s0 v4 H locs hP hD hS hf; cases hf
  | succ n ih =>
    intro s0 v4 H locs hP hD hS hf ls hl
    have hf : Sets_seek_b9 N (Sets_seek_h9 N s1 s2 v3 n) s0 s1 s2 v3 v4 = some y := hf
    exact k_Sets_seek_b9 C0 s0 s1 s2 v3 v4 (fun s0 v4 _ _ hP hD hS hf ls hl => ih s0 v4 hP hD hS hf ls hl) hA hP hD hS hf ls hl
set_option maxHeartbeats 4000000 in
set_option maxRecDepth 100000 in
theorem k_Sets_seek_b0 {p : Program} {l : Launch} {e : Env} {s : State} {m : MethodId} {args : Array Value} {below : List Frame} {meth : Method} {c : Code} {dC : Nat → ClassId} {dI : Nat → Nat → Nat} {cy : Nat → ClassId} {A : Nat → Prop} {o0 : Nat} {a0 : Nat → Nat} {o1 : Nat} {a1 : Nat → Nat} {o2 : Nat} {a2 : Nat → Nat} {N : Nat} {y : zSt} (C0 : zCx p s m args meth c cX7_seek 5 none RX7 (dC, dI) cy) (s0 : zSt) (s1 : zSt) (s2 : zSt) (v3 : Int32) (hA : ∀ q, s.heap.size ≤ q → A q) {H : Heap} {locs : List Loc} (hP : va_P (dC, dI) vwCl (wd_Sets_seek cy o0 a0 (zI s0) (zL s0) (zA s0 8) (zA s0 9) (zA s0 10) (zA s0 11) (zA s0 12) (zA s0 13) o1 a1 (zI s1) (zL s1) (zA s1 5) (zA s1 6) (zA s1 14) o2 a2 (zI s2) (zL s2) (zA s2 1) (zA s2 3) (zA s2 4) (zA s2 5)) H) (hD : va_D A (wd_Sets_seek cy o0 a0 (zI s0) (zL s0) (zA s0 8) (zA s0 9) (zA s0 10) (zA s0 11) (zA s0 12) (zA s0 13) o1 a1 (zI s1) (zL s1) (zA s1 5) (zA s1 6) (zA s1 14) o2 a2 (zI s2) (zL s2) (zA s2 1) (zA s2 3) (zA s2 4) (zA s2 5))) (hS : va_S A s.heap H locs) (hf : Sets_seek_b0 N s0 s1 s2 v3 = some y) (ls : Array Slot) (hl : lv_has ls 5 [(0, .ref o0), (1, .ref o1), (2, .ref o2), (3, .int v3)]) : W p l e rm_Sets_seek s m args below meth c H locs 0 0 (MQ below (zQv (dC, dI) cy (wd_Sets_seek cy o0 a0 (zI y) (zL y) (zA y 8) (zA y 9) (zA y 10) (zA y 11) (zA y 12) (zA y 13) o1 a1 (zI s1) (zL s1) (zA s1 5) (zA s1 6) (zA s1 14) o2 a2 (zI s2) (zL s2) (zA s2 1) (zA s2 3) (zA s2 4) (zA s2 5)) A) args s 0 0 A) (F0 m 0 ls []) := by
  obtain ⟨hx, hb, hr, hml, hown, hT, hk, hK⟩ := id C0
  refine lv_aload_n hx hb dX7_seek_0 rfl (lv_at hl 0 rfl) ?_
  refine lv_aload_n hx hb dX7_seek_1 rfl (lv_at hl 1 rfl) ?_
  refine lv_aload_n hx hb dX7_seek_2 rfl (lv_at hl 2 rfl) ?_
  obtain ⟨z1, hc2, hf⟩ := zbd_some hf
  refine zwv (wr := [(a0 10, .inl (cy 0, 44, .inl (zA s0 10))), (a0 12, .inl (cy 0, 48, .inl (zA s0 12))), (a1 6, .inl (cy 0, 11, .inl (zA s1 6))), (a1 14, .inl (cy 0, 4, .inl (zA s1 14))), (a2 1, .inl (cy 0, 4, .inl (zA s2 1))), (a2 3, .inl (cy 0, 4, .inl (zA s2 3))), (a2 4, .inl (cy 0, 48, .inl (zA s2 4))), (a2 5, .inl (cy 0, 48, .inl (zA s2 5)))]) (ws' := (wd_Sets_seek cy o0 a0 (zI z1) (zL z1) (zA z1 8) (zA z1 9) (zA s0 10) (zA z1 11) (zA s0 12) (zA z1 13) o1 a1 (zI s1) (zL s1) (zA s1 5) (zA s1 6) (zA s1 14) o2 a2 (zI s2) (zL s2) (zA s2 1) (zA s2 3) (zA s2 4) (zA s2 5))) (zV (As := [.ref o1, .ref o2]) hx hb hml hown hT hl.1 (c_Sets_begin o0 a0 s0 o1 a1 s1 o2 a2 s2 hc2) zY_Sets_begin tb_789 (zpRw hK hP hD [0, 1, 2, 4, 6, 7, 8, 11] (by decide) rfl 0 7 rfl rfl rfl rfl) rm_ok_Sets_seek_Sets_begin rfl rfl (Nat.le_of_ble_eq_true rfl) dX7_seek_3 ⟨Nat.zero_le _, Nat.zero_le _⟩) hP hD hS hA [0, 1, 2, 4, 6, 7, 8, 11] [3, 5, 9, 10, 12, 13, 14, 15] [8, 9, 10, 0, 11, 1, 12, 13, 14, 2, 3, 15, 4, 5, 6, 7] rfl rfl (by decide) (by decide) (by decide) rfl rfl (fun H locs hP hD hS => ?_)
  refine lv_iconst (v := 0) hx hb dX7_seek_6 (by decide) ?_
  refine lv_istore (lv' := [(4, .int 0), (0, .ref o0), (1, .ref o1), (2, .ref o2), (3, .int v3)]) hx hb dX7_seek_7 hl (by decide) rfl (fun ls hl => ?_)
  exact k_Sets_seek_h9 C0 s1 s2 v3  hA N (zmg [10,12] z1 s0) 0 hP hD hS hf _ (lv_sub hl [1, 2, 3, 4, 0] rfl)
set_option maxHeartbeats 4000000 in
set_option maxRecDepth 100000 in
theorem c_Sets_seek {l : Launch} {dC : Nat → ClassId} {dI : Nat → Nat → Nat} {cy : Nat → ClassId} {sz : Nat} {N : Nat} (o0 : Nat) (a0 : Nat → Nat) (s0 : zSt) (o1 : Nat) (a1 : Nat → Nat) (s1 : zSt) (o2 : Nat) (a2 : Nat → Nat) (s2 : zSt) (v3 : Int32) {y : zSt} (hf : Sets_seek N s0 s1 s2 v3 = some y) : Met l yX7_seek (.code yX7_seek cX7_seek 5 none :: zt) rm_Sets_seek (va_Pc [.ref o0, .ref o1, .ref o2, .int v3] (zPre (dC, dI) cy (wd_Sets_seek cy o0 a0 (zI s0) (zL s0) (zA s0 8) (zA s0 9) (zA s0 10) (zA s0 11) (zA s0 12) (zA s0 13) o1 a1 (zI s1) (zL s1) (zA s1 5) (zA s1 6) (zA s1 14) o2 a2 (zI s2) (zL s2) (zA s2 1) (zA s2 3) (zA s2 4) (zA s2 5)) sz)) (zQv (dC, dI) cy (wd_Sets_seek cy o0 a0 (zI y) (zL y) (zA y 8) (zA y 9) (zA y 10) (zA y 11) (zA y 12) (zA y 13) o1 a1 (zI s1) (zL s1) (zA s1 5) (zA s1 6) (zA s1 14) o2 a2 (zI s2) (zL s2) (zA s2 1) (zA s2 3) (zA s2 4) (zA s2 5)) (va_A (wd_Sets_seek cy o0 a0 (zI s0) (zL s0) (zA s0 8) (zA s0 9) (zA s0 10) (zA s0 11) (zA s0 12) (zA s0 13) o1 a1 (zI s1) (zL s1) (zA s1 5) (zA s1 6) (zA s1 14) o2 a2 (zI s2) (zL s2) (zA s2 1) (zA s2 3) (zA s2 4) (zA s2 5)) sz)) 0 0 (va_A (wd_Sets_seek cy o0 a0 (zI s0) (zL s0) (zA s0 8) (zA s0 9) (zA s0 10) (zA s0 11) (zA s0 12) (zA s0 13) o1 a1 (zI s1) (zL s1) (zA s1 5) (zA s1 6) (zA s1 14) o2 a2 (zI s2) (zL s2) (zA s2 1) (zA s2 3) (zA s2 4) (zA s2 5)) sz) :=
  zentW (Qw := fun A => (zQv (dC, dI) cy (wd_Sets_seek cy o0 a0 (zI y) (zL y) (zA y 8) (zA y 9) (zA y 10) (zA y 11) (zA y 12) (zA y 13) o1 a1 (zI s1) (zL s1) (zA s1 5) (zA s1 6) (zA s1 14) o2 a2 (zI s2) (zL s2) (zA s2 1) (zA s2 3) (zA s2 4) (zA s2 5)) A)) (by decide +kernel) (Nat.le_of_ble_eq_true rfl) (fun p e s m below meth c A C0 hA hP hD hS ls hl => k_Sets_seek_b0 C0 s0 s1 s2 v3 hA hP hD hS hf ls hl)
def wd_Valley_clear (cy : Nat → ClassId) (o0 : Nat) (a0 : Nat → Nat) (g0 : Nat → Int32) (h0 : Nat → Int64) : va_W := [(o0, .inr (9, fs_Valley a0 g0 h0))]
def rm_Valley_clear : Room := { frames := 1, cells := 0, slots := 0, locals := 40 }
set_option maxHeartbeats 4000000 in
set_option maxRecDepth 100000 in
theorem k_Valley_clear_b0 {p : Program} {l : Launch} {e : Env} {s : State} {m : MethodId} {args : Array Value} {below : List Frame} {meth : Method} {c : Code} {dC : Nat → ClassId} {dI : Nat → Nat → Nat} {cy : Nat → ClassId} {A : Nat → Prop} {o0 : Nat} {a0 : Nat → Nat} {N : Nat} {y : zSt} (C0 : zCx p s m args meth c cX9_clear 1 none RX9 (dC, dI) cy) (s0 : zSt) (hA : ∀ q, s.heap.size ≤ q → A q) {H : Heap} {locs : List Loc} (hP : va_P (dC, dI) vwCl (wd_Valley_clear cy o0 a0 (zI s0) (zL s0)) H) (hD : va_D A (wd_Valley_clear cy o0 a0 (zI s0) (zL s0))) (hS : va_S A s.heap H locs) (hf : Valley_clear_b0 N s0 = some y) (ls : Array Slot) (hl : lv_has ls 1 [(0, .ref o0)]) : W p l e rm_Valley_clear s m args below meth c H locs 0 0 (MQ below (zQv (dC, dI) cy (wd_Valley_clear cy o0 a0 (zI y) (zL y)) A) args s 0 0 A) (F0 m 0 ls []) := by
  obtain ⟨hx, hb, hr, hml, hown, hT, hk, hK⟩ := id C0
  refine lv_aload_n hx hb dX9_clear_0 rfl (lv_at hl 0 rfl) ?_
  refine lv_iconst (v := 0) hx hb dX9_clear_1 (by decide) ?_
  refine zput (fs' := fs_Valley a0 (upd (zI s0) 0 0) (zL s0)) (ws' := (wd_Valley_clear cy o0 a0 (upd (zI s0) 0 0) (zL s0))) hx hb hown hT hK hP hD hS inX9 rfl smX9 tyX9_ok nmX9 0 rfl 0 (by decide) tb_93 rfl rfl rfl (Nat.le_of_ble_eq_true rfl) rfl rfl dX9_clear_2 (fun H locs hP hD hS => ?_)
  refine lv_aload_n hx hb dX9_clear_5 rfl (lv_at hl 0 rfl) ?_
  refine lv_iconst (v := 0) hx hb dX9_clear_6 (by decide) ?_
  refine zput (fs' := fs_Valley a0 (upd (upd (zI s0) 0 0) 3 0) (zL s0)) (ws' := (wd_Valley_clear cy o0 a0 (upd (upd (zI s0) 0 0) 3 0) (zL s0))) hx hb hown hT hK hP hD hS inX9 rfl smX9 tyX9_ok nmX9 0 rfl 3 (by decide) tb_101 rfl rfl rfl (Nat.le_of_ble_eq_true rfl) rfl rfl dX9_clear_7 (fun H locs hP hD hS => ?_)
  refine lv_aload_n hx hb dX9_clear_10 rfl (lv_at hl 0 rfl) ?_
  refine lv_iconst (v := 0) hx hb dX9_clear_11 (by decide) ?_
  refine zput (fs' := fs_Valley a0 (upd (upd (upd (zI s0) 0 0) 3 0) 8 0) (zL s0)) (ws' := (wd_Valley_clear cy o0 a0 (upd (upd (upd (zI s0) 0 0) 3 0) 8 0) (zL s0))) hx hb hown hT hK hP hD hS inX9 rfl smX9 tyX9_ok nmX9 0 rfl 8 (by decide) tb_121 rfl rfl rfl (Nat.le_of_ble_eq_true rfl) rfl rfl dX9_clear_12 (fun H locs hP hD hS => ?_)
  refine lv_aload_n hx hb dX9_clear_15 rfl (lv_at hl 0 rfl) ?_
  refine lv_iconst (v := 0) hx hb dX9_clear_16 (by decide) ?_
  refine zput (fs' := fs_Valley a0 (upd (upd (upd (upd (zI s0) 0 0) 3 0) 8 0) 9 0) (zL s0)) (ws' := (wd_Valley_clear cy o0 a0 (upd (upd (upd (upd (zI s0) 0 0) 3 0) 8 0) 9 0) (zL s0))) hx hb hown hT hK hP hD hS inX9 rfl smX9 tyX9_ok nmX9 0 rfl 9 (by decide) tb_123 rfl rfl rfl (Nat.le_of_ble_eq_true rfl) rfl rfl dX9_clear_17 (fun H locs hP hD hS => ?_)
  refine lv_aload_n hx hb dX9_clear_20 rfl (lv_at hl 0 rfl) ?_
  refine lv_iconst (v := 0) hx hb dX9_clear_21 (by decide) ?_
  refine zput (fs' := fs_Valley a0 (upd (upd (upd (upd (upd (zI s0) 0 0) 3 0) 8 0) 9 0) 11 0) (zL s0)) (ws' := (wd_Valley_clear cy o0 a0 (upd (upd (upd (upd (upd (zI s0) 0 0) 3 0) 8 0) 9 0) 11 0) (zL s0))) hx hb hown hT hK hP hD hS inX9 rfl smX9 tyX9_ok nmX9 0 rfl 11 (by decide) tb_128 rfl rfl rfl (Nat.le_of_ble_eq_true rfl) rfl rfl dX9_clear_22 (fun H locs hP hD hS => ?_)
  refine lv_aload_n hx hb dX9_clear_25 rfl (lv_at hl 0 rfl) ?_
  refine lv_iconst (v := 0) hx hb dX9_clear_26 (by decide) ?_
  refine zput (fs' := fs_Valley a0 (upd (upd (upd (upd (upd (upd (zI s0) 0 0) 3 0) 8 0) 9 0) 11 0) 12 0) (zL s0)) (ws' := (wd_Valley_clear cy o0 a0 (upd (upd (upd (upd (upd (upd (zI s0) 0 0) 3 0) 8 0) 9 0) 11 0) 12 0) (zL s0))) hx hb hown hT hK hP hD hS inX9 rfl smX9 tyX9_ok nmX9 0 rfl 12 (by decide) tb_130 rfl rfl rfl (Nat.le_of_ble_eq_true rfl) rfl rfl dX9_clear_27 (fun H locs hP hD hS => ?_)
  cases hf
  exact zewv hx hb hr hk hK hP hD hS dX9_clear_30
set_option maxHeartbeats 4000000 in
set_option maxRecDepth 100000 in
theorem c_Valley_clear {l : Launch} {dC : Nat → ClassId} {dI : Nat → Nat → Nat} {cy : Nat → ClassId} {sz : Nat} {N : Nat} (o0 : Nat) (a0 : Nat → Nat) (s0 : zSt) {y : zSt} (hf : Valley_clear N s0 = some y) : Met l yX9_clear (.code yX9_clear cX9_clear 1 none :: zt) rm_Valley_clear (va_Pc [.ref o0] (zPre (dC, dI) cy (wd_Valley_clear cy o0 a0 (zI s0) (zL s0)) sz)) (zQv (dC, dI) cy (wd_Valley_clear cy o0 a0 (zI y) (zL y)) (va_A (wd_Valley_clear cy o0 a0 (zI s0) (zL s0)) sz)) 0 0 (va_A (wd_Valley_clear cy o0 a0 (zI s0) (zL s0)) sz) :=
  zentW (Qw := fun A => (zQv (dC, dI) cy (wd_Valley_clear cy o0 a0 (zI y) (zL y)) A)) (by decide +kernel) (Nat.le_of_ble_eq_true rfl) (fun p e s m below meth c A C0 hA hP hD hS ls hl => k_Valley_clear_b0 C0 s0 hA hP hD hS hf ls hl)
def wd_Teller_isAtEnd (cy : Nat → ClassId) (o0 : Nat) (a0 : Nat → Nat) (g0 : Nat → Int32) (h0 : Nat → Int64) (a1 : Nat → Nat) (g1 : Nat → Int32) (h1 : Nat → Int64) (x1_1 : Nat → Int32) : va_W := [(o0, .inr (8, fs_Teller a0 g0 h0)), ((a0 2), .inr (6, fs_Reader a1 g1 h1)), (a1 1, .inl (cy 0, 205, .inl x1_1))]
def rm_Teller_isAtEnd : Room := { frames := 1, cells := 0, slots := 0, locals := 40 }
set_option maxHeartbeats 4000000 in
set_option maxRecDepth 100000 in
theorem k_Teller_isAtEnd_b0 {p : Program} {l : Launch} {e : Env} {s : State} {m : MethodId} {args : Array Value} {below : List Frame} {meth : Method} {c : Code} {dC : Nat → ClassId} {dI : Nat → Nat → Nat} {cy : Nat → ClassId} {o0 : Nat} {a0 : Nat → Nat} {a1 : Nat → Nat} {N : Nat} {y : Int32} (C0 : zCx p s m args meth c cX8_isAtEnd 1 (some .boolean) RX8 (dC, dI) cy) (s0 : zSt) (s1 : zSt) (hP : va_P (dC, dI) vwCl (wd_Teller_isAtEnd cy o0 a0 (zI s0) (zL s0) a1 (zI s1) (zL s1) (zA s1 1)) s.heap) (hf : Teller_isAtEnd_b0 N s0 s1 = some y) (ls : Array Slot) (hl : lv_has ls 1 [(0, .ref o0)]) : W p l e rm_Teller_isAtEnd s m args below meth c s.heap [] 0 0 (MQ below (zSi y) args s 0 0 (fun _ => False)) (F0 m 0 ls []) := by
  obtain ⟨hx, hb, hr, hml, hown, hT, hk, hK⟩ := id C0
  refine lv_aload_n hx hb dX8_isAtEnd_0 rfl (lv_at hl 0 rfl) ?_
  refine zget (v := .int (zI s0 3)) hx hb hown hT hK hP inX8 rfl smX8 0 rfl 3 (by decide) tb_71 rfl dX8_isAtEnd_1 ?_
  refine lv_aload_n hx hb dX8_isAtEnd_4 rfl (lv_at hl 0 rfl) ?_
  refine zget (v := .ref (a0 2)) hx hb hown hT hK hP inX8 rfl smX8 0 rfl 2 (by decide) tb_70 rfl dX8_isAtEnd_5 ?_
  refine zget (v := .int (zI s1 0)) hx hb hown hT hK hP inX6 rfl smX6 1 rfl 0 (by decide) tb_38 rfl dX8_isAtEnd_8 ?_
  refine lv_icmp_ge (tgt := 33) hx hb dX8_isAtEnd_11 (by decide) (fun hb_1 => ?_) (fun hb_1 => ?_)
  · have hf := zif_t hb_1 hf
    refine lv_iconst (v := 0) hx hb dX8_isAtEnd_33 (by decide) ?_
    cases hf
    exact zerz hx hb hr hk (Or.inl rfl) dX8_isAtEnd_34
  · have hf := zif_f hb_1 hf
    refine lv_aload_n hx hb dX8_isAtEnd_14 rfl (lv_at hl 0 rfl) ?_
    refine zget (v := .ref (a0 2)) hx hb hown hT hK hP inX8 rfl smX8 0 rfl 2 (by decide) tb_70 rfl dX8_isAtEnd_15 ?_
    refine zget (v := .ref (a1 1)) hx hb hown hT hK hP inX6 rfl smX6 1 rfl 1 (by decide) tb_40 rfl dX8_isAtEnd_18 ?_
    refine lv_aload_n hx hb dX8_isAtEnd_21 rfl (lv_at hl 0 rfl) ?_
    refine zget (v := .int (zI s0 3)) hx hb hown hT hK hP inX8 rfl smX8 0 rfl 3 (by decide) tb_71 rfl dX8_isAtEnd_22 ?_
    obtain ⟨hi2, hf⟩ := zck_some hf
    refine va_iald hx hb hK.1 hP 2 0 rfl rfl hi2 dX8_isAtEnd_25 ?_
    refine lv_if_ne (tgt := 33) hx hb dX8_isAtEnd_26 (by decide) (fun hb_3 => ?_) (fun hb_3 => ?_)
    · have hf := zif_f hb_3 hf
      refine lv_iconst (v := 0) hx hb dX8_isAtEnd_33 (by decide) ?_
      cases hf
      exact zerz hx hb hr hk (Or.inl rfl) dX8_isAtEnd_34
    · have hf := zif_t hb_3 hf
      refine lv_iconst (v := 1) hx hb dX8_isAtEnd_29 (by decide) ?_
      refine lv_goto (tgt := 34) hx hb dX8_isAtEnd_30 (by decide) ?_
      cases hf
      exact zerz hx hb hr hk (Or.inr rfl) dX8_isAtEnd_34
set_option maxHeartbeats 4000000 in
set_option maxRecDepth 100000 in
theorem c_Teller_isAtEnd {l : Launch} {dC : Nat → ClassId} {dI : Nat → Nat → Nat} {cy : Nat → ClassId} {N : Nat} (o0 : Nat) (a0 : Nat → Nat) (s0 : zSt) (a1 : Nat → Nat) (s1 : zSt) {y : Int32} (hf : Teller_isAtEnd N s0 s1 = some y) : Met l yX8_isAtEnd (.code yX8_isAtEnd cX8_isAtEnd 1 (some .boolean) :: zt) rm_Teller_isAtEnd (va_Pc [.ref o0] (zRd (dC, dI) cy (wd_Teller_isAtEnd cy o0 a0 (zI s0) (zL s0) a1 (zI s1) (zL s1) (zA s1 1)))) (zSi y) 0 0 (fun _ => False) :=
  zentR (by decide +kernel) (Nat.le_of_ble_eq_true rfl) (fun p e s m below meth c C0 hP ls hl => k_Teller_isAtEnd_b0 C0 s0 s1 hP hf ls hl)
def wd_Teller_refuse (cy : Nat → ClassId) (o0 : Nat) (a0 : Nat → Nat) (g0 : Nat → Int32) (h0 : Nat → Int64) : va_W := [(o0, .inr (8, fs_Teller a0 g0 h0))]
def rm_Teller_refuse : Room := { frames := 1, cells := 0, slots := 0, locals := 40 }
set_option maxHeartbeats 4000000 in
set_option maxRecDepth 100000 in
theorem k_Teller_refuse_b0 {p : Program} {l : Launch} {e : Env} {s : State} {m : MethodId} {args : Array Value} {below : List Frame} {meth : Method} {c : Code} {dC : Nat → ClassId} {dI : Nat → Nat → Nat} {cy : Nat → ClassId} {A : Nat → Prop} {o0 : Nat} {a0 : Nat → Nat} {N : Nat} {y : Int32 × zSt} (C0 : zCx p s m args meth c cX8_refuse 2 (some .boolean) RX8 (dC, dI) cy) (s0 : zSt) (v1 : Int32) (hA : ∀ q, s.heap.size ≤ q → A q) {H : Heap} {locs : List Loc} (hP : va_P (dC, dI) vwCl (wd_Teller_refuse cy o0 a0 (zI s0) (zL s0)) H) (hD : va_D A (wd_Teller_refuse cy o0 a0 (zI s0) (zL s0))) (hS : va_S A s.heap H locs) (hf : Teller_refuse_b0 N s0 v1 = some y) (ls : Array Slot) (hl : lv_has ls 2 [(0, .ref o0), (1, .int v1)]) : W p l e rm_Teller_refuse s m args below meth c H locs 0 0 (MQ below (zQi y.1 (dC, dI) cy (wd_Teller_refuse cy o0 a0 (zI y.2) (zL y.2)) A) args s 0 0 A) (F0 m 0 ls []) := by
  obtain ⟨hx, hb, hr, hml, hown, hT, hk, hK⟩ := id C0
  refine lv_aload_n hx hb dX8_refuse_0 rfl (lv_at hl 0 rfl) ?_
  refine lv_iload_n hx hb dX8_refuse_1 rfl (lv_at hl 1 rfl) ?_
  refine zput (fs' := fs_Teller a0 (upd (zI s0) 0 v1) (zL s0)) (ws' := (wd_Teller_refuse cy o0 a0 (upd (zI s0) 0 v1) (zL s0))) hx hb hown hT hK hP hD hS inX8 rfl smX8 tyX8_ok nmX8 0 rfl 0 (by decide) tb_66 rfl rfl rfl (Nat.le_of_ble_eq_true rfl) rfl rfl dX8_refuse_2 (fun H locs hP hD hS => ?_)
  refine lv_aload_n hx hb dX8_refuse_5 rfl (lv_at hl 0 rfl) ?_
  refine lv_aload_n hx hb dX8_refuse_6 rfl (lv_at hl 0 rfl) ?_
  refine zget (v := .int (zI s0 4)) hx hb hown hT hK hP inX8 rfl smX8 0 rfl 4 (by decide) tb_72 rfl dX8_refuse_7 ?_
  refine zput (fs' := fs_Teller a0 (upd (upd (zI s0) 0 v1) 1 (zI s0 4)) (zL s0)) (ws' := (wd_Teller_refuse cy o0 a0 (upd (upd (zI s0) 0 v1) 1 (zI s0 4)) (zL s0))) hx hb hown hT hK hP hD hS inX8 rfl smX8 tyX8_ok nmX8 0 rfl 1 (by decide) tb_68 rfl rfl rfl (Nat.le_of_ble_eq_true rfl) rfl rfl dX8_refuse_10 (fun H locs hP hD hS => ?_)
  refine lv_iconst (v := 0) hx hb dX8_refuse_13 (by decide) ?_
  cases hf
  exact zewz hx hb hr hk (Or.inl rfl) hK hP hD hS dX8_refuse_14
set_option maxHeartbeats 4000000 in
set_option maxRecDepth 100000 in
theorem c_Teller_refuse {l : Launch} {dC : Nat → ClassId} {dI : Nat → Nat → Nat} {cy : Nat → ClassId} {sz : Nat} {N : Nat} (o0 : Nat) (a0 : Nat → Nat) (s0 : zSt) (v1 : Int32) {y : Int32 × zSt} (hf : Teller_refuse N s0 v1 = some y) : Met l yX8_refuse (.code yX8_refuse cX8_refuse 2 (some .boolean) :: zt) rm_Teller_refuse (va_Pc [.ref o0, .int v1] (zPre (dC, dI) cy (wd_Teller_refuse cy o0 a0 (zI s0) (zL s0)) sz)) (zQi y.1 (dC, dI) cy (wd_Teller_refuse cy o0 a0 (zI y.2) (zL y.2)) (va_A (wd_Teller_refuse cy o0 a0 (zI s0) (zL s0)) sz)) 0 0 (va_A (wd_Teller_refuse cy o0 a0 (zI s0) (zL s0)) sz) :=
  zentW (Qw := fun A => (zQi y.1 (dC, dI) cy (wd_Teller_refuse cy o0 a0 (zI y.2) (zL y.2)) A)) (by decide +kernel) (Nat.le_of_ble_eq_true rfl) (fun p e s m below meth c A C0 hA hP hD hS ls hl => k_Teller_refuse_b0 C0 s0 v1 hA hP hD hS hf ls hl)
def wd_Teller_take (cy : Nat → ClassId) (o0 : Nat) (a0 : Nat → Nat) (g0 : Nat → Int32) (h0 : Nat → Int64) (a1 : Nat → Nat) (g1 : Nat → Int32) (h1 : Nat → Int64) (x1_1 : Nat → Int32) (x1_2 : Nat → Int32) (x1_3 : Nat → Int64) : va_W := [(o0, .inr (8, fs_Teller a0 g0 h0)), ((a0 2), .inr (6, fs_Reader a1 g1 h1)), (a1 1, .inl (cy 0, 205, .inl x1_1)), (a1 2, .inl (cy 0, 205, .inl x1_2)), (a1 3, .inl (cy 1, 205, .inr (.inl x1_3)))]
def rm_Teller_take : Room := { frames := 2, cells := 0, slots := 0, locals := 61 }
theorem rm_ok_Teller_take_Teller_refuse : rm_Teller_refuse.cells = 0 ∧ rm_Teller_refuse.slots = 0 ∧ rm_Teller_refuse.frames + 1 ≤ rm_Teller_take.frames ∧ 8 + (2 + 11) + rm_Teller_refuse.locals ≤ rm_Teller_take.locals := by decide
set_option maxHeartbeats 4000000 in
set_option maxRecDepth 100000 in
theorem k_Teller_take_b99 {p : Program} {l : Launch} {e : Env} {s : State} {m : MethodId} {args : Array Value} {below : List Frame} {meth : Method} {c : Code} {dC : Nat → ClassId} {dI : Nat → Nat → Nat} {cy : Nat → ClassId} {A : Nat → Prop} {o0 : Nat} {a0 : Nat → Nat} {a1 : Nat → Nat} {N : Nat} {y : Int32 × zSt} (C0 : zCx p s m args meth c cX8_take 3 (some .boolean) RX8 (dC, dI) cy) (s0 : zSt) (s1 : zSt) (hA : ∀ q, s.heap.size ≤ q → A q) {H : Heap} {locs : List Loc} (hP : va_P (dC, dI) vwCl (wd_Teller_take cy o0 a0 (zI s0) (zL s0) a1 (zI s1) (zL s1) (zA s1 1) (zA s1 2) (zB s1 3)) H) (hD : va_D A (wd_Teller_take cy o0 a0 (zI s0) (zL s0) a1 (zI s1) (zL s1) (zA s1 1) (zA s1 2) (zB s1 3))) (hS : va_S A s.heap H locs) (hf : Teller_take_b99 N s0 s1 = some y) (ls : Array Slot) (hl : lv_has ls 3 []) : W p l e rm_Teller_take s m args below meth c H locs 0 0 (MQ below (zQi y.1 (dC, dI) cy (wd_Teller_take cy o0 a0 (zI y.2) (zL y.2) a1 (zI s1) (zL s1) (zA s1 1) (zA s1 2) (zB s1 3)) A) args s 0 0 A) (F0 m 99 ls []) := by
  obtain ⟨hx, hb, hr, hml, hown, hT, hk, hK⟩ := id C0
  refine lv_iconst (v := 1) hx hb dX8_take_99 (by decide) ?_
  refine lv_goto (tgt := 104) hx hb dX8_take_100 (by decide) ?_
  cases hf
  exact zewz hx hb hr hk (Or.inr rfl) hK hP hD hS dX8_take_104
set_option maxHeartbeats 4000000 in
set_option maxRecDepth 100000 in
theorem k_Teller_take_b0 {p : Program} {l : Launch} {e : Env} {s : State} {m : MethodId} {args : Array Value} {below : List Frame} {meth : Method} {c : Code} {dC : Nat → ClassId} {dI : Nat → Nat → Nat} {cy : Nat → ClassId} {A : Nat → Prop} {o0 : Nat} {a0 : Nat → Nat} {a1 : Nat → Nat} {N : Nat} {y : Int32 × zSt} (C0 : zCx p s m args meth c cX8_take 3 (some .boolean) RX8 (dC, dI) cy) (s0 : zSt) (s1 : zSt) (v1 : Int32) (hA : ∀ q, s.heap.size ≤ q → A q) {H : Heap} {locs : List Loc} (hP : va_P (dC, dI) vwCl (wd_Teller_take cy o0 a0 (zI s0) (zL s0) a1 (zI s1) (zL s1) (zA s1 1) (zA s1 2) (zB s1 3)) H) (hD : va_D A (wd_Teller_take cy o0 a0 (zI s0) (zL s0) a1 (zI s1) (zL s1) (zA s1 1) (zA s1 2) (zB s1 3))) (hS : va_S A s.heap H locs) (hf : Teller_take_b0 N s0 s1 v1 = some y) (ls : Array Slot) (hl : lv_has ls 3 [(0, .ref o0), (1, .int v1)]) : W p l e rm_Teller_take s m args below meth c H locs 0 0 (MQ below (zQi y.1 (dC, dI) cy (wd_Teller_take cy o0 a0 (zI y.2) (zL y.2) a1 (zI s1) (zL s1) (zA s1 1) (zA s1 2) (zB s1 3)) A) args s 0 0 A) (F0 m 0 ls []) := by
  obtain ⟨hx, hb, hr, hml, hown, hT, hk, hK⟩ := id C0
  refine lv_aload_n hx hb dX8_take_0 rfl (lv_at hl 0 rfl) ?_
  refine zget (v := .int (zI s0 3)) hx hb hown hT hK hP inX8 rfl smX8 0 rfl 3 (by decide) tb_71 rfl dX8_take_1 ?_
  refine lv_aload_n hx hb dX8_take_4 rfl (lv_at hl 0 rfl) ?_
  refine zget (v := .ref (a0 2)) hx hb hown hT hK hP inX8 rfl smX8 0 rfl 2 (by decide) tb_70 rfl dX8_take_5 ?_
  refine zget (v := .int (zI s1 0)) hx hb hown hT hK hP inX6 rfl smX6 1 rfl 0 (by decide) tb_38 rfl dX8_take_8 ?_
  refine lv_icmp_lt (tgt := 20) hx hb dX8_take_11 (by decide) (fun hb_1 => ?_) (fun hb_1 => ?_)
  · have hf := zif_t hb_1 hf
    refine lv_aload_n hx hb dX8_take_20 rfl (lv_at hl 0 rfl) ?_
    refine zget (v := .ref (a0 2)) hx hb hown hT hK hP inX8 rfl smX8 0 rfl 2 (by decide) tb_70 rfl dX8_take_21 ?_
    refine zget (v := .ref (a1 1)) hx hb hown hT hK hP inX6 rfl smX6 1 rfl 1 (by decide) tb_40 rfl dX8_take_24 ?_
    refine lv_aload_n hx hb dX8_take_27 rfl (lv_at hl 0 rfl) ?_
    refine zget (v := .int (zI s0 3)) hx hb hown hT hK hP inX8 rfl smX8 0 rfl 3 (by decide) tb_71 rfl dX8_take_28 ?_
    obtain ⟨hi2, hf⟩ := zck_some hf
    refine va_iald hx hb hK.1 hP 2 0 rfl rfl hi2 dX8_take_31 ?_
    refine lv_istore_n (lv' := [(2, .int ((zA s1 1) (Int32.toNatClampNeg (zI s0 3)))), (0, .ref o0), (1, .int v1)]) hx hb dX8_take_32 rfl hl (by decide) rfl (fun ls hl => ?_)
    refine lv_aload_n hx hb dX8_take_33 rfl (lv_at hl 1 rfl) ?_
    refine lv_aload_n hx hb dX8_take_34 rfl (lv_at hl 1 rfl) ?_
    refine zget (v := .ref (a0 2)) hx hb hown hT hK hP inX8 rfl smX8 0 rfl 2 (by decide) tb_70 rfl dX8_take_35 ?_
    refine zget (v := .ref (a1 2)) hx hb hown hT hK hP inX6 rfl smX6 1 rfl 2 (by decide) tb_42 rfl dX8_take_38 ?_
    refine lv_aload_n hx hb dX8_take_41 rfl (lv_at hl 1 rfl) ?_
    refine zget (v := .int (zI s0 3)) hx hb hown hT hK hP inX8 rfl smX8 0 rfl 3 (by decide) tb_71 rfl dX8_take_42 ?_
    obtain ⟨hi3, hf⟩ := zck_some hf
    refine va_iald hx hb hK.1 hP 3 0 rfl rfl hi3 dX8_take_45 ?_
    refine zput (fs' := fs_Teller a0 (upd (zI s0) 4 ((zA s1 2) (Int32.toNatClampNeg (zI s0 3)))) (zL s0)) (ws' := (wd_Teller_take cy o0 a0 (upd (zI s0) 4 ((zA s1 2) (Int32.toNatClampNeg (zI s0 3)))) (zL s0) a1 (zI s1) (zL s1) (zA s1 1) (zA s1 2) (zB s1 3))) hx hb hown hT hK hP hD hS inX8 rfl smX8 tyX8_ok nmX8 0 rfl 4 (by decide) tb_72 rfl rfl rfl (Nat.le_of_ble_eq_true rfl) rfl rfl dX8_take_46 (fun H locs hP hD hS => ?_)
    refine lv_aload_n hx hb dX8_take_49 rfl (lv_at hl 1 rfl) ?_
    refine lv_aload_n hx hb dX8_take_50 rfl (lv_at hl 1 rfl) ?_
    refine zget (v := .ref (a0 2)) hx hb hown hT hK hP inX8 rfl smX8 0 rfl 2 (by decide) tb_70 rfl dX8_take_51 ?_
    refine zget (v := .ref (a1 3)) hx hb hown hT hK hP inX6 rfl smX6 1 rfl 3 (by decide) tb_44 rfl dX8_take_54 ?_
    refine lv_aload_n hx hb dX8_take_57 rfl (lv_at hl 1 rfl) ?_
    refine zget (v := .int (zI s0 3)) hx hb hown hT hK hP inX8 rfl smX8 0 rfl 3 (by decide) tb_71 rfl dX8_take_58 ?_
    obtain ⟨hi4, hf⟩ := zck_some hf
    refine va_lald hx hb hK.1 hP 4 1 rfl rfl hi4 dX8_take_61 ?_
    refine zput (fs' := fs_Teller a0 (upd (zI s0) 4 ((zA s1 2) (Int32.toNatClampNeg (zI s0 3)))) (vp_updL (zL s0) 5 ((zB s1 3) (Int32.toNatClampNeg (zI s0 3))))) (ws' := (wd_Teller_take cy o0 a0 (upd (zI s0) 4 ((zA s1 2) (Int32.toNatClampNeg (zI s0 3)))) (vp_updL (zL s0) 5 ((zB s1 3) (Int32.toNatClampNeg (zI s0 3)))) a1 (zI s1) (zL s1) (zA s1 1) (zA s1 2) (zB s1 3))) hx hb hown hT hK hP hD hS inX8 rfl smX8 tyX8_ok nmX8 0 rfl 5 (by decide) tb_73 rfl rfl rfl (Nat.le_of_ble_eq_true rfl) rfl rfl dX8_take_62 (fun H locs hP hD hS => ?_)
    refine lv_aload_n hx hb dX8_take_65 rfl (lv_at hl 1 rfl) ?_
    refine lv_dup hx hb dX8_take_66 rfl ?_
    refine zget (v := .int (zI s0 3)) hx hb hown hT hK hP inX8 rfl smX8 0 rfl 3 (by decide) tb_71 rfl dX8_take_67 ?_
    refine lv_iconst (v := 1) hx hb dX8_take_70 (by decide) ?_
    refine lv_iadd hx hb dX8_take_71 ?_
    refine zput (fs' := fs_Teller a0 (upd (upd (zI s0) 4 ((zA s1 2) (Int32.toNatClampNeg (zI s0 3)))) 3 ((zI s0 3) + 1)) (vp_updL (zL s0) 5 ((zB s1 3) (Int32.toNatClampNeg (zI s0 3))))) (ws' := (wd_Teller_take cy o0 a0 (upd (upd (zI s0) 4 ((zA s1 2) (Int32.toNatClampNeg (zI s0 3)))) 3 ((zI s0 3) + 1)) (vp_updL (zL s0) 5 ((zB s1 3) (Int32.toNatClampNeg (zI s0 3)))) a1 (zI s1) (zL s1) (zA s1 1) (zA s1 2) (zB s1 3))) hx hb hown hT hK hP hD hS inX8 rfl smX8 tyX8_ok nmX8 0 rfl 3 (by decide) tb_71 rfl rfl rfl (Nat.le_of_ble_eq_true rfl) rfl rfl dX8_take_72 (fun H locs hP hD hS => ?_)
    refine lv_iload_n hx hb dX8_take_75 rfl (lv_at hl 0 rfl) ?_
    refine lv_iconst (v := 1) hx hb dX8_take_76 (by decide) ?_
    refine lv_icmp_ne (tgt := 86) hx hb dX8_take_77 (by decide) (fun hb_5 => ?_) (fun hb_5 => ?_)
    · have hf := zif_f hb_5 hf
      refine lv_iload_n hx hb dX8_take_86 rfl (lv_at hl 0 rfl) ?_
      refine lv_iload_n hx hb dX8_take_87 rfl (lv_at hl 2 rfl) ?_
      refine lv_icmp_eq (tgt := 99) hx hb dX8_take_88 (by decide) (fun hb_6 => ?_) (fun hb_6 => ?_)
      · have hf := zif_t hb_6 hf
        exact k_Teller_take_b99 C0 (zpI (zpL (zpI s0 4 ((zA s1 2) (Int32.toNatClampNeg (zI s0 3)))) 5 ((zB s1 3) (Int32.toNatClampNeg (zI s0 3)))) 3 ((zI s0 3) + 1)) s1  hA hP hD hS hf _ (lv_sub hl [] rfl)
      · have hf := zif_f hb_6 hf
        refine lv_aload_n hx hb dX8_take_91 rfl (lv_at hl 1 rfl) ?_
        refine lv_iconst (v := 2) hx hb dX8_take_92 (by decide) ?_
        obtain ⟨z7, hc8, hf⟩ := zbd_some hf
        refine zwi (wr := [((a0 2), .inr (6, fs_Reader a1 (zI s1) (zL s1))), (a1 1, .inl (cy 0, 205, .inl (zA s1 1))), (a1 2, .inl (cy 0, 205, .inl (zA s1 2))), (a1 3, .inl (cy 1, 205, .inr (.inl (zB s1 3))))]) (ws' := (wd_Teller_take cy o0 a0 (zI z7.2) (zL z7.2) a1 (zI s1) (zL s1) (zA s1 1) (zA s1 2) (zB s1 3))) (zV (As := [.int 2]) hx hb hml hown hT hl.1 (c_Teller_refuse o0 a0 (zpI (zpL (zpI s0 4 ((zA s1 2) (Int32.toNatClampNeg (zI s0 3)))) 5 ((zB s1 3) (Int32.toNatClampNeg (zI s0 3)))) 3 ((zI s0 3) + 1)) 2 hc8) zY_Teller_refuse tb_554 (zpRw hK hP hD [0] (by decide) rfl 0 8 rfl rfl rfl rfl) rm_ok_Teller_take_Teller_refuse rfl rfl (Nat.le_of_ble_eq_true rfl) dX8_take_93 ⟨Nat.zero_le _, Nat.zero_le _⟩) hP hD hS hA [0] [1, 2, 3, 4] [4, 0, 1, 2, 3] rfl rfl (by decide) (by decide) (by decide) rfl rfl (fun H locs hP hD hS => ?_)
        refine lv_if_eq (tgt := 103) hx hb dX8_take_96 (by decide) (fun hb_9 => ?_) (fun hb_9 => ?_)
        · have hf := zif_t hb_9 hf
          refine lv_iconst (v := 0) hx hb dX8_take_103 (by decide) ?_
          cases hf
          exact zewz hx hb hr hk (Or.inl rfl) hK hP hD hS dX8_take_104
        · have hf := zif_f hb_9 hf
          exact k_Teller_take_b99 C0 z7.2 s1  hA hP hD hS hf _ (lv_sub hl [] rfl)
    · have hf := zif_t hb_5 hf
      refine lv_aload_n hx hb dX8_take_80 rfl (lv_at hl 1 rfl) ?_
      refine lv_iconst (v := 1) hx hb dX8_take_81 (by decide) ?_
      obtain ⟨z10, hc11, hf⟩ := zbd_some hf
      refine zwi (wr := [((a0 2), .inr (6, fs_Reader a1 (zI s1) (zL s1))), (a1 1, .inl (cy 0, 205, .inl (zA s1 1))), (a1 2, .inl (cy 0, 205, .inl (zA s1 2))), (a1 3, .inl (cy 1, 205, .inr (.inl (zB s1 3))))]) (ws' := (wd_Teller_take cy o0 a0 (zI z10.2) (zL z10.2) a1 (zI s1) (zL s1) (zA s1 1) (zA s1 2) (zB s1 3))) (zV (As := [.int 1]) hx hb hml hown hT hl.1 (c_Teller_refuse o0 a0 (zpI (zpL (zpI s0 4 ((zA s1 2) (Int32.toNatClampNeg (zI s0 3)))) 5 ((zB s1 3) (Int32.toNatClampNeg (zI s0 3)))) 3 ((zI s0 3) + 1)) 1 hc11) zY_Teller_refuse tb_554 (zpRw hK hP hD [0] (by decide) rfl 0 8 rfl rfl rfl rfl) rm_ok_Teller_take_Teller_refuse rfl rfl (Nat.le_of_ble_eq_true rfl) dX8_take_82 ⟨Nat.zero_le _, Nat.zero_le _⟩) hP hD hS hA [0] [1, 2, 3, 4] [4, 0, 1, 2, 3] rfl rfl (by decide) (by decide) (by decide) rfl rfl (fun H locs hP hD hS => ?_)
      obtain ⟨hq12, hf⟩ := zcb_some hf
      cases hf
      exact zewz hx hb hr hk hq12 hK hP hD hS dX8_take_85
  · have hf := zif_f hb_1 hf
    refine lv_aload_n hx hb dX8_take_14 rfl (lv_at hl 0 rfl) ?_
    refine lv_iconst (v := 2) hx hb dX8_take_15 (by decide) ?_
    obtain ⟨z13, hc14, hf⟩ := zbd_some hf
    refine zwi (wr := [((a0 2), .inr (6, fs_Reader a1 (zI s1) (zL s1))), (a1 1, .inl (cy 0, 205, .inl (zA s1 1))), (a1 2, .inl (cy 0, 205, .inl (zA s1 2))), (a1 3, .inl (cy 1, 205, .inr (.inl (zB s1 3))))]) (ws' := (wd_Teller_take cy o0 a0 (zI z13.2) (zL z13.2) a1 (zI s1) (zL s1) (zA s1 1) (zA s1 2) (zB s1 3))) (zV (As := [.int 2]) hx hb hml hown hT hl.1 (c_Teller_refuse o0 a0 s0 2 hc14) zY_Teller_refuse tb_554 (zpRw hK hP hD [0] (by decide) rfl 0 8 rfl rfl rfl rfl) rm_ok_Teller_take_Teller_refuse rfl rfl (Nat.le_of_ble_eq_true rfl) dX8_take_16 ⟨Nat.zero_le _, Nat.zero_le _⟩) hP hD hS hA [0] [1, 2, 3, 4] [4, 0, 1, 2, 3] rfl rfl (by decide) (by decide) (by decide) rfl rfl (fun H locs hP hD hS => ?_)
    obtain ⟨hq15, hf⟩ := zcb_some hf
    cases hf
    exact zewz hx hb hr hk hq15 hK hP hD hS dX8_take_19
set_option maxHeartbeats 4000000 in
set_option maxRecDepth 100000 in
theorem c_Teller_take {l : Launch} {dC : Nat → ClassId} {dI : Nat → Nat → Nat} {cy : Nat → ClassId} {sz : Nat} {N : Nat} (o0 : Nat) (a0 : Nat → Nat) (s0 : zSt) (a1 : Nat → Nat) (s1 : zSt) (v1 : Int32) {y : Int32 × zSt} (hf : Teller_take N s0 s1 v1 = some y) : Met l yX8_take (.code yX8_take cX8_take 3 (some .boolean) :: zt) rm_Teller_take (va_Pc [.ref o0, .int v1] (zPre (dC, dI) cy (wd_Teller_take cy o0 a0 (zI s0) (zL s0) a1 (zI s1) (zL s1) (zA s1 1) (zA s1 2) (zB s1 3)) sz)) (zQi y.1 (dC, dI) cy (wd_Teller_take cy o0 a0 (zI y.2) (zL y.2) a1 (zI s1) (zL s1) (zA s1 1) (zA s1 2) (zB s1 3)) (va_A (wd_Teller_take cy o0 a0 (zI s0) (zL s0) a1 (zI s1) (zL s1) (zA s1 1) (zA s1 2) (zB s1 3)) sz)) 0 0 (va_A (wd_Teller_take cy o0 a0 (zI s0) (zL s0) a1 (zI s1) (zL s1) (zA s1 1) (zA s1 2) (zB s1 3)) sz) :=
  zentW (Qw := fun A => (zQi y.1 (dC, dI) cy (wd_Teller_take cy o0 a0 (zI y.2) (zL y.2) a1 (zI s1) (zL s1) (zA s1 1) (zA s1 2) (zB s1 3)) A)) (by decide +kernel) (Nat.le_of_ble_eq_true rfl) (fun p e s m below meth c A C0 hA hP hD hS ls hl => k_Teller_take_b0 C0 s0 s1 v1 hA hP hD hS hf ls hl)
def wd_Teller_standsForItself (cy : Nat → ClassId) : va_W := []
def rm_Teller_standsForItself : Room := { frames := 1, cells := 0, slots := 0, locals := 40 }
set_option maxHeartbeats 4000000 in
set_option maxRecDepth 100000 in
theorem k_Teller_standsForItself_b72 {p : Program} {l : Launch} {e : Env} {s : State} {m : MethodId} {args : Array Value} {below : List Frame} {meth : Method} {c : Code} {dC : Nat → ClassId} {dI : Nat → Nat → Nat} {cy : Nat → ClassId} {N : Nat} {y : Int32} (C0 : zCx p s m args meth c cX8_standsForItself 2 (some .boolean) RX8 (dC, dI) cy) (hP : va_P (dC, dI) vwCl (wd_Teller_standsForItself cy) s.heap) (hf : Teller_standsForItself_b72 N = some y) (ls : Array Slot) (hl : lv_has ls 2 []) : W p l e rm_Teller_standsForItself s m args below meth c s.heap [] 0 0 (MQ below (zSi y) args s 0 0 (fun _ => False)) (F0 m 72 ls []) := by
  obtain ⟨hx, hb, hr, hml, hown, hT, hk, hK⟩ := id C0
  refine lv_iconst (v := 1) hx hb dX8_standsForItself_72 (by decide) ?_
  refine lv_goto (tgt := 77) hx hb dX8_standsForItself_73 (by decide) ?_
  cases hf
  exact zerz hx hb hr hk (Or.inr rfl) dX8_standsForItself_77
set_option maxHeartbeats 4000000 in
set_option maxRecDepth 100000 in
theorem k_Teller_standsForItself_b0 {p : Program} {l : Launch} {e : Env} {s : State} {m : MethodId} {args : Array Value} {below : List Frame} {meth : Method} {c : Code} {dC : Nat → ClassId} {dI : Nat → Nat → Nat} {cy : Nat → ClassId} {N : Nat} {y : Int32} (C0 : zCx p s m args meth c cX8_standsForItself 2 (some .boolean) RX8 (dC, dI) cy) (v0 : Int64) (hP : va_P (dC, dI) vwCl (wd_Teller_standsForItself cy) s.heap) (hf : Teller_standsForItself_b0 N v0 = some y) (ls : Array Slot) (hl : lv_has ls 2 [(0, .long v0)]) : W p l e rm_Teller_standsForItself s m args below meth c s.heap [] 0 0 (MQ below (zSi y) args s 0 0 (fun _ => False)) (F0 m 0 ls []) := by
  obtain ⟨hx, hb, hr, hml, hown, hT, hk, hK⟩ := id C0
  refine lv_lload_n hx hb dX8_standsForItself_0 rfl (lv_at hl 0 rfl) ?_
  refine lv_ldc2 (v := 1751478884) hx hb hown (hT _ tb_558) dX8_standsForItself_1 ?_
  refine W.lcmp hx hb dX8_standsForItself_4 ?_
  refine lv_if_eq (tgt := 72) hx hb dX8_standsForItself_5 (by decide) (fun hb_1 => ?_) (fun hb_1 => ?_)
  · have hf := zif_t hb_1 hf
    exact k_Teller_standsForItself_b72 C0   hP hf _ (lv_sub hl [] rfl)
  · have hf := zif_f hb_1 hf
    refine lv_lload_n hx hb dX8_standsForItself_8 rfl (lv_at hl 0 rfl) ?_
    refine lv_ldc2 (v := 422607680372) hx hb hown (hT _ tb_574) dX8_standsForItself_9 ?_
    refine W.lcmp hx hb dX8_standsForItself_12 ?_
    refine lv_if_eq (tgt := 72) hx hb dX8_standsForItself_13 (by decide) (fun hb_2 => ?_) (fun hb_2 => ?_)
    · have hf := zif_t hb_2 hf
      exact k_Teller_standsForItself_b72 C0   hP hf _ (lv_sub hl [] rfl)
    · have hf := zif_f hb_2 hf
      refine lv_lload_n hx hb dX8_standsForItself_16 rfl (lv_at hl 0 rfl) ?_
      refine lv_ldc2 (v := 28518) hx hb hown (hT _ tb_575) dX8_standsForItself_17 ?_
      refine W.lcmp hx hb dX8_standsForItself_20 ?_
      refine lv_if_eq (tgt := 72) hx hb dX8_standsForItself_21 (by decide) (fun hb_3 => ?_) (fun hb_3 => ?_)
      · have hf := zif_t hb_3 hf
        exact k_Teller_standsForItself_b72 C0   hP hf _ (lv_sub hl [] rfl)
      · have hf := zif_f hb_3 hf
        refine lv_lload_n hx hb dX8_standsForItself_24 rfl (lv_at hl 0 rfl) ?_
        refine lv_ldc2 (v := 1650814060) hx hb hown (hT _ tb_576) dX8_standsForItself_25 ?_
        refine W.lcmp hx hb dX8_standsForItself_28 ?_
        refine lv_if_eq (tgt := 72) hx hb dX8_standsForItself_29 (by decide) (fun hb_4 => ?_) (fun hb_4 => ?_)
        · have hf := zif_t hb_4 hf
          exact k_Teller_standsForItself_b72 C0   hP hf _ (lv_sub hl [] rfl)
        · have hf := zif_f hb_4 hf
          refine lv_lload_n hx hb dX8_standsForItself_32 rfl (lv_at hl 0 rfl) ?_
          refine lv_ldc2 (v := 1819243876) hx hb hown (hT _ tb_577) dX8_standsForItself_33 ?_
          refine W.lcmp hx hb dX8_standsForItself_36 ?_
          refine lv_if_eq (tgt := 72) hx hb dX8_standsForItself_37 (by decide) (fun hb_5 => ?_) (fun hb_5 => ?_)
          · have hf := zif_t hb_5 hf
            exact k_Teller_standsForItself_b72 C0   hP hf _ (lv_sub hl [] rfl)
          · have hf := zif_f hb_5 hf
            refine lv_lload_n hx hb dX8_standsForItself_40 rfl (lv_at hl 0 rfl) ?_
            refine lv_ldc2 (v := 8319400174449812850) hx hb hown (hT _ tb_578) dX8_standsForItself_41 ?_
            refine W.lcmp hx hb dX8_standsForItself_44 ?_
            refine lv_if_eq (tgt := 72) hx hb dX8_standsForItself_45 (by decide) (fun hb_6 => ?_) (fun hb_6 => ?_)
            · have hf := zif_t hb_6 hf
              exact k_Teller_standsForItself_b72 C0   hP hf _ (lv_sub hl [] rfl)
            · have hf := zif_f hb_6 hf
              refine lv_lload_n hx hb dX8_standsForItself_48 rfl (lv_at hl 0 rfl) ?_
              refine lv_ldc2 (v := 6644082) hx hb hown (hT _ tb_579) dX8_standsForItself_49 ?_
              refine W.lcmp hx hb dX8_standsForItself_52 ?_
              refine lv_if_eq (tgt := 72) hx hb dX8_standsForItself_53 (by decide) (fun hb_7 => ?_) (fun hb_7 => ?_)
              · have hf := zif_t hb_7 hf
                exact k_Teller_standsForItself_b72 C0   hP hf _ (lv_sub hl [] rfl)
              · have hf := zif_f hb_7 hf
                refine lv_lload_n hx hb dX8_standsForItself_56 rfl (lv_at hl 0 rfl) ?_
                refine lv_ldc2 (v := 24948) hx hb hown (hT _ tb_580) dX8_standsForItself_57 ?_
                refine W.lcmp hx hb dX8_standsForItself_60 ?_
                refine lv_if_eq (tgt := 72) hx hb dX8_standsForItself_61 (by decide) (fun hb_8 => ?_) (fun hb_8 => ?_)
                · have hf := zif_t hb_8 hf
                  exact k_Teller_standsForItself_b72 C0   hP hf _ (lv_sub hl [] rfl)
                · have hf := zif_f hb_8 hf
                  refine lv_lload_n hx hb dX8_standsForItself_64 rfl (lv_at hl 0 rfl) ?_
                  refine lv_ldc2 (v := 108187867505765) hx hb hown (hT _ tb_581) dX8_standsForItself_65 ?_
                  refine W.lcmp hx hb dX8_standsForItself_68 ?_
                  refine lv_if_ne (tgt := 76) hx hb dX8_standsForItself_69 (by decide) (fun hb_9 => ?_) (fun hb_9 => ?_)
                  · have hf := zif_f hb_9 hf
                    refine lv_iconst (v := 0) hx hb dX8_standsForItself_76 (by decide) ?_
                    cases hf
                    exact zerz hx hb hr hk (Or.inl rfl) dX8_standsForItself_77
                  · have hf := zif_t hb_9 hf
                    exact k_Teller_standsForItself_b72 C0   hP hf _ (lv_sub hl [] rfl)
set_option maxHeartbeats 4000000 in
set_option maxRecDepth 100000 in
theorem c_Teller_standsForItself {l : Launch} {dC : Nat → ClassId} {dI : Nat → Nat → Nat} {cy : Nat → ClassId} {N : Nat} (v0 : Int64) {y : Int32} (hf : Teller_standsForItself N v0 = some y) : Met l yX8_standsForItself (.code yX8_standsForItself cX8_standsForItself 2 (some .boolean) :: zt) rm_Teller_standsForItself (va_Pc [.long v0] (zRd (dC, dI) cy (wd_Teller_standsForItself cy))) (zSi y) 0 0 (fun _ => False) :=
  zentR (by decide +kernel) (Nat.le_of_ble_eq_true rfl) (fun p e s m below meth c C0 hP ls hl => k_Teller_standsForItself_b0 C0 v0 hP hf ls hl)
def wd_Teller_takeName (cy : Nat → ClassId) (o0 : Nat) (a0 : Nat → Nat) (g0 : Nat → Int32) (h0 : Nat → Int64) (a1 : Nat → Nat) (g1 : Nat → Int32) (h1 : Nat → Int64) (x1_1 : Nat → Int32) (x1_2 : Nat → Int32) (x1_3 : Nat → Int64) : va_W := [(o0, .inr (8, fs_Teller a0 g0 h0)), ((a0 2), .inr (6, fs_Reader a1 g1 h1)), (a1 1, .inl (cy 0, 205, .inl x1_1)), (a1 2, .inl (cy 0, 205, .inl x1_2)), (a1 3, .inl (cy 1, 205, .inr (.inl x1_3)))]
def rm_Teller_takeName : Room := { frames := 3, cells := 0, slots := 0, locals := 83 }
theorem rm_ok_Teller_takeName_Teller_refuse : rm_Teller_refuse.cells = 0 ∧ rm_Teller_refuse.slots = 0 ∧ rm_Teller_refuse.frames + 1 ≤ rm_Teller_takeName.frames ∧ 8 + (2 + 11) + rm_Teller_refuse.locals ≤ rm_Teller_takeName.locals := by decide
theorem rm_ok_Teller_takeName_Teller_standsForItself : rm_Teller_standsForItself.cells = 0 ∧ rm_Teller_standsForItself.slots = 0 ∧ rm_Teller_standsForItself.frames + 1 ≤ rm_Teller_takeName.frames ∧ 8 + (2 + 11) + rm_Teller_standsForItself.locals ≤ rm_Teller_takeName.locals := by decide
theorem rm_ok_Teller_takeName_Teller_take : rm_Teller_take.cells = 0 ∧ rm_Teller_take.slots = 0 ∧ rm_Teller_take.frames + 1 ≤ rm_Teller_takeName.frames ∧ 8 + (3 + 11) + rm_Teller_take.locals ≤ rm_Teller_takeName.locals := by decide
set_option maxHeartbeats 4000000 in
set_option maxRecDepth 100000 in
theorem k_Teller_takeName_b26 {p : Program} {l : Launch} {e : Env} {s : State} {m : MethodId} {args : Array Value} {below : List Frame} {meth : Method} {c : Code} {dC : Nat → ClassId} {dI : Nat → Nat → Nat} {cy : Nat → ClassId} {A : Nat → Prop} {o0 : Nat} {a0 : Nat → Nat} {a1 : Nat → Nat} {N : Nat} {y : Int32 × zSt} (C0 : zCx p s m args meth c cX8_takeName 1 (some .boolean) RX8 (dC, dI) cy) (s0 : zSt) (s1 : zSt) (hA : ∀ q, s.heap.size ≤ q → A q) {H : Heap} {locs : List Loc} (hP : va_P (dC, dI) vwCl (wd_Teller_takeName cy o0 a0 (zI s0) (zL s0) a1 (zI s1) (zL s1) (zA s1 1) (zA s1 2) (zB s1 3)) H) (hD : va_D A (wd_Teller_takeName cy o0 a0 (zI s0) (zL s0) a1 (zI s1) (zL s1) (zA s1 1) (zA s1 2) (zB s1 3))) (hS : va_S A s.heap H locs) (hf : Teller_takeName_b26 N s0 s1 = some y) (ls : Array Slot) (hl : lv_has ls 1 []) : W p l e rm_Teller_takeName s m args below meth c H locs 0 0 (MQ below (zQi y.1 (dC, dI) cy (wd_Teller_takeName cy o0 a0 (zI y.2) (zL y.2) a1 (zI s1) (zL s1) (zA s1 1) (zA s1 2) (zB s1 3)) A) args s 0 0 A) (F0 m 26 ls []) := by
  obtain ⟨hx, hb, hr, hml, hown, hT, hk, hK⟩ := id C0
  refine lv_iconst (v := 1) hx hb dX8_takeName_26 (by decide) ?_
  refine lv_goto (tgt := 31) hx hb dX8_takeName_27 (by decide) ?_
  cases hf
  exact zewz hx hb hr hk (Or.inr rfl) hK hP hD hS dX8_takeName_31
set_option maxHeartbeats 4000000 in
set_option maxRecDepth 100000 in
theorem k_Teller_takeName_b0 {p : Program} {l : Launch} {e : Env} {s : State} {m : MethodId} {args : Array Value} {below : List Frame} {meth : Method} {c : Code} {dC : Nat → ClassId} {dI : Nat → Nat → Nat} {cy : Nat → ClassId} {A : Nat → Prop} {o0 : Nat} {a0 : Nat → Nat} {a1 : Nat → Nat} {N : Nat} {y : Int32 × zSt} (C0 : zCx p s m args meth c cX8_takeName 1 (some .boolean) RX8 (dC, dI) cy) (s0 : zSt) (s1 : zSt) (hA : ∀ q, s.heap.size ≤ q → A q) {H : Heap} {locs : List Loc} (hP : va_P (dC, dI) vwCl (wd_Teller_takeName cy o0 a0 (zI s0) (zL s0) a1 (zI s1) (zL s1) (zA s1 1) (zA s1 2) (zB s1 3)) H) (hD : va_D A (wd_Teller_takeName cy o0 a0 (zI s0) (zL s0) a1 (zI s1) (zL s1) (zA s1 1) (zA s1 2) (zB s1 3))) (hS : va_S A s.heap H locs) (hf : Teller_takeName_b0 N s0 s1 = some y) (ls : Array Slot) (hl : lv_has ls 1 [(0, .ref o0)]) : W p l e rm_Teller_takeName s m args below meth c H locs 0 0 (MQ below (zQi y.1 (dC, dI) cy (wd_Teller_takeName cy o0 a0 (zI y.2) (zL y.2) a1 (zI s1) (zL s1) (zA s1 1) (zA s1 2) (zB s1 3)) A) args s 0 0 A) (F0 m 0 ls []) := by
  obtain ⟨hx, hb, hr, hml, hown, hT, hk, hK⟩ := id C0
  refine lv_aload_n hx hb dX8_takeName_0 rfl (lv_at hl 0 rfl) ?_
  refine lv_iconst (v := 2) hx hb dX8_takeName_1 (by decide) ?_
  obtain ⟨z1, hc2, hf⟩ := zbd_some hf
  refine zwi (wr := []) (ws' := (wd_Teller_takeName cy o0 a0 (zI z1.2) (zL z1.2) a1 (zI s1) (zL s1) (zA s1 1) (zA s1 2) (zB s1 3))) (zV (As := [.int 2]) hx hb hml hown hT hl.1 (c_Teller_take o0 a0 s0 a1 s1 2 hc2) zY_Teller_take tb_550 (zpRw hK hP hD [0, 1, 2, 3, 4] (by decide) rfl 0 8 rfl rfl rfl rfl) rm_ok_Teller_takeName_Teller_take rfl rfl (Nat.le_of_ble_eq_true rfl) dX8_takeName_2 ⟨Nat.zero_le _, Nat.zero_le _⟩) hP hD hS hA [0, 1, 2, 3, 4] [] [0, 1, 2, 3, 4] rfl rfl (by decide) (by decide) (by decide) rfl rfl (fun H locs hP hD hS => ?_)
  refine lv_if_eq (tgt := 30) hx hb dX8_takeName_5 (by decide) (fun hb_3 => ?_) (fun hb_3 => ?_)
  · have hf := zif_t hb_3 hf
    refine lv_iconst (v := 0) hx hb dX8_takeName_30 (by decide) ?_
    cases hf
    exact zewz hx hb hr hk (Or.inl rfl) hK hP hD hS dX8_takeName_31
  · have hf := zif_f hb_3 hf
    refine lv_aload_n hx hb dX8_takeName_8 rfl (lv_at hl 0 rfl) ?_
    refine zget (v := .long (zL z1.2 5)) hx hb hown hT hK hP inX8 rfl smX8 0 rfl 5 (by decide) tb_73 rfl dX8_takeName_9 ?_
    obtain ⟨z4, hc5, hf⟩ := zbd_some hf
    refine zri (zS (As := [.long (zL z1.2 5)]) hx hb hml hown hT hl.1 (c_Teller_standsForItself (zL z1.2 5) hc5) zY_Teller_standsForItself tb_571 (zpS hK hP [] rfl) rm_ok_Teller_takeName_Teller_standsForItself rfl rfl (Nat.le_of_ble_eq_true rfl) dX8_takeName_12 ⟨Nat.zero_le _, Nat.zero_le _⟩) ?_
    refine lv_if_eq (tgt := 26) hx hb dX8_takeName_15 (by decide) (fun hb_6 => ?_) (fun hb_6 => ?_)
    · have hf := zif_t hb_6 hf
      exact k_Teller_takeName_b26 C0 z1.2 s1  hA hP hD hS hf _ (lv_sub hl [] rfl)
    · have hf := zif_f hb_6 hf
      refine lv_aload_n hx hb dX8_takeName_18 rfl (lv_at hl 0 rfl) ?_
      refine lv_iconst (v := 2) hx hb dX8_takeName_19 (by decide) ?_
      obtain ⟨z7, hc8, hf⟩ := zbd_some hf
      refine zwi (wr := [((a0 2), .inr (6, fs_Reader a1 (zI s1) (zL s1))), (a1 1, .inl (cy 0, 205, .inl (zA s1 1))), (a1 2, .inl (cy 0, 205, .inl (zA s1 2))), (a1 3, .inl (cy 1, 205, .inr (.inl (zB s1 3))))]) (ws' := (wd_Teller_takeName cy o0 a0 (zI z7.2) (zL z7.2) a1 (zI s1) (zL s1) (zA s1 1) (zA s1 2) (zB s1 3))) (zV (As := [.int 2]) hx hb hml hown hT hl.1 (c_Teller_refuse o0 a0 z1.2 2 hc8) zY_Teller_refuse tb_554 (zpRw hK hP hD [0] (by decide) rfl 0 8 rfl rfl rfl rfl) rm_ok_Teller_takeName_Teller_refuse rfl rfl (Nat.le_of_ble_eq_true rfl) dX8_takeName_20 ⟨Nat.zero_le _, Nat.zero_le _⟩) hP hD hS hA [0] [1, 2, 3, 4] [4, 0, 1, 2, 3] rfl rfl (by decide) (by decide) (by decide) rfl rfl (fun H locs hP hD hS => ?_)
      refine lv_if_eq (tgt := 30) hx hb dX8_takeName_23 (by decide) (fun hb_9 => ?_) (fun hb_9 => ?_)
      · have hf := zif_t hb_9 hf
        refine lv_iconst (v := 0) hx hb dX8_takeName_30 (by decide) ?_
        cases hf
        exact zewz hx hb hr hk (Or.inl rfl) hK hP hD hS dX8_takeName_31
      · have hf := zif_f hb_9 hf
        exact k_Teller_takeName_b26 C0 z7.2 s1  hA hP hD hS hf _ (lv_sub hl [] rfl)
set_option maxHeartbeats 4000000 in
set_option maxRecDepth 100000 in
theorem c_Teller_takeName {l : Launch} {dC : Nat → ClassId} {dI : Nat → Nat → Nat} {cy : Nat → ClassId} {sz : Nat} {N : Nat} (o0 : Nat) (a0 : Nat → Nat) (s0 : zSt) (a1 : Nat → Nat) (s1 : zSt) {y : Int32 × zSt} (hf : Teller_takeName N s0 s1 = some y) : Met l yX8_takeName (.code yX8_takeName cX8_takeName 1 (some .boolean) :: zt) rm_Teller_takeName (va_Pc [.ref o0] (zPre (dC, dI) cy (wd_Teller_takeName cy o0 a0 (zI s0) (zL s0) a1 (zI s1) (zL s1) (zA s1 1) (zA s1 2) (zB s1 3)) sz)) (zQi y.1 (dC, dI) cy (wd_Teller_takeName cy o0 a0 (zI y.2) (zL y.2) a1 (zI s1) (zL s1) (zA s1 1) (zA s1 2) (zB s1 3)) (va_A (wd_Teller_takeName cy o0 a0 (zI s0) (zL s0) a1 (zI s1) (zL s1) (zA s1 1) (zA s1 2) (zB s1 3)) sz)) 0 0 (va_A (wd_Teller_takeName cy o0 a0 (zI s0) (zL s0) a1 (zI s1) (zL s1) (zA s1 1) (zA s1 2) (zB s1 3)) sz) :=
  zentW (Qw := fun A => (zQi y.1 (dC, dI) cy (wd_Teller_takeName cy o0 a0 (zI y.2) (zL y.2) a1 (zI s1) (zL s1) (zA s1 1) (zA s1 2) (zB s1 3)) A)) (by decide +kernel) (Nat.le_of_ble_eq_true rfl) (fun p e s m below meth c A C0 hA hP hD hS ls hl => k_Teller_takeName_b0 C0 s0 s1 hA hP hD hS hf ls hl)
def wd_Teller_find (cy : Nat → ClassId) (o0 n0 : Nat) (f0 : Nat → Int64) : va_W := [(o0, .inl (cy 1, n0, .inr (.inl f0)))]
def rm_Teller_find : Room := { frames := 1, cells := 0, slots := 0, locals := 40 }
set_option maxHeartbeats 4000000 in
set_option maxRecDepth 100000 in
theorem k_Teller_find_b3 {p : Program} {l : Launch} {e : Env} {s : State} {m : MethodId} {args : Array Value} {below : List Frame} {meth : Method} {c : Code} {dC : Nat → ClassId} {dI : Nat → Nat → Nat} {cy : Nat → ClassId} {o0 : Nat} {N : Nat} {kh3 : Int32 → Option (Int32)} {y : Int32} (C0 : zCx p s m args meth c cX8_find 5 (some .int) RX8 (dC, dI) cy) (n0 : Nat) (f0 : Nat → Int64) (v0 : Int64) (v3 : Int32) (v4 : Int32) (hk3 : ∀ (v4 : Int32) (_ : kh3 v4 = some y) (ls : Array Slot) (_ : lv_has ls 5 [(0, .long v0), (2, .ref o0), (3, .int v3), (4, .int v4)]), W p l e rm_Teller_find s m args below meth c s.heap [] 0 0 (MQ below (zSi y) args s 0 0 (fun _ => False)) (F0 m 3 ls [])) (hP : va_P (dC, dI) vwCl (wd_Teller_find cy o0 n0 f0) s.heap) (hf : Teller_find_b3 N kh3 n0 f0 v0 v3 v4 = some y) (ls : Array Slot) (hl : lv_has ls 5 [(0, .long v0), (2, .ref o0), (3, .int v3), (4, .int v4)]) : W p l e rm_Teller_find s m args below meth c s.heap [] 0 0 (MQ below (zSi y) args s 0 0 (fun _ => False)) (F0 m 3 ls []) := by
  obtain ⟨hx, hb, hr, hml, hown, hT, hk, hK⟩ := id C0
  refine lv_iload hx hb dX8_find_3 (lv_at hl 3 rfl) ?_
  refine lv_iload_n hx hb dX8_find_5 rfl (lv_at hl 2 rfl) ?_
  refine lv_icmp_ge (tgt := 34) hx hb dX8_find_6 (by decide) (fun hb_1 => ?_) (fun hb_1 => ?_)
  · have hf := zif_t hb_1 hf
    refine lv_iconst (v := (-1)) hx hb dX8_find_34 (by decide) ?_
    cases hf
    exact zeri hx hb hr hk dX8_find_35
  · have hf := zif_f hb_1 hf
    refine lv_iload hx hb dX8_find_9 (lv_at hl 3 rfl) ?_
    refine lv_aload_n hx hb dX8_find_11 rfl (lv_at hl 1 rfl) ?_
    refine va_alen (v := Int32.ofNat n0) hx hb hK.1 hP 0 1 rfl rfl rfl dX8_find_12 ?_
    refine lv_icmp_ge (tgt := 34) hx hb dX8_find_13 (by decide) (fun hb_2 => ?_) (fun hb_2 => ?_)
    · have hf := zif_t hb_2 hf
      refine lv_iconst (v := (-1)) hx hb dX8_find_34 (by decide) ?_
      cases hf
      exact zeri hx hb hr hk dX8_find_35
    · have hf := zif_f hb_2 hf
      refine lv_aload_n hx hb dX8_find_16 rfl (lv_at hl 1 rfl) ?_
      refine lv_iload hx hb dX8_find_17 (lv_at hl 3 rfl) ?_
      obtain ⟨hi3, hf⟩ := zck_some hf
      refine va_lald hx hb hK.1 hP 0 1 rfl rfl hi3 dX8_find_19 ?_
      refine lv_lload_n hx hb dX8_find_20 rfl (lv_at hl 0 rfl) ?_
      refine W.lcmp hx hb dX8_find_21 ?_
      refine lv_if_ne (tgt := 28) hx hb dX8_find_22 (by decide) (fun hb_4 => ?_) (fun hb_4 => ?_)
      · have hf := zif_f hb_4 hf
        refine lv_iinc (v := v4 + 1) (lv' := [(4, .int (v4 + 1)), (0, .long v0), (2, .ref o0), (3, .int v3)]) hx hb dX8_find_28 hl (k := 3) rfl rfl (by decide) rfl (fun ls hl => ?_)
        refine lv_goto (tgt := 3) hx hb dX8_find_31 (by decide) ?_
        exact hk3 (v4 + 1) hf _ (lv_sub hl [1, 2, 3, 0] rfl)
      · have hf := zif_t hb_4 hf
        refine lv_iload hx hb dX8_find_25 (lv_at hl 3 rfl) ?_
        cases hf
        exact zeri hx hb hr hk dX8_find_27
set_option maxHeartbeats 4000000 in
set_option maxRecDepth 100000 in
theorem k_Teller_find_h3 {p : Program} {l : Launch} {e : Env} {s : State} {m : MethodId} {args : Array Value} {below : List Frame} {meth : Method} {c : Code} {dC : Nat → ClassId} {dI : Nat → Nat → Nat} {cy : Nat → ClassId} {o0 : Nat} {N : Nat} {y : Int32} (C0 : zCx p s m args meth c cX8_find 5 (some .int) RX8 (dC, dI) cy) (n0 : Nat) (f0 : (Nat → Int64)) (v0 : Int64) (v3 : Int32) (hP : va_P (dC, dI) vwCl (wd_Teller_find cy o0 n0 f0) s.heap) : ∀ (n : Nat) (v4 : Int32) (hf : Teller_find_h3 N n0 f0 v0 v3 n v4 = some y) (ls : Array Slot) (hl : lv_has ls 5 [(0, .long v0), (2, .ref o0), (3, .int v3), (4, .int v4)]), W p l e rm_Teller_find s m args below meth c s.heap [] 0 0 (MQ below (zSi y) args s 0 0 (fun _ => False)) (F0 m 3 ls []) := by
  intro n
  induction n with
  | zero => intro v4 hf; cases hf
  | succ n ih =>
    intro v4 hf ls hl
    have hf : Teller_find_b3 N (Teller_find_h3 N n0 f0 v0 v3 n) n0 f0 v0 v3 v4 = some y := hf
    exact k_Teller_find_b3 C0 n0 f0 v0 v3 v4 (fun v4 hf ls hl => ih v4 hf ls hl) hP hf ls hl
set_option maxHeartbeats 4000000 in
set_option maxRecDepth 100000 in
theorem k_Teller_find_b0 {p : Program} {l : Launch} {e : Env} {s : State} {m : MethodId} {args : Array Value} {below : List Frame} {meth : Method} {c : Code} {dC : Nat → ClassId} {dI : Nat → Nat → Nat} {cy : Nat → ClassId} {o0 : Nat} {N : Nat} {y : Int32} (C0 : zCx p s m args meth c cX8_find 5 (some .int) RX8 (dC, dI) cy) (n0 : Nat) (f0 : Nat → Int64) (v0 : Int64) (v3 : Int32) (hP : va_P (dC, dI) vwCl (wd_Teller_find cy o0 n0 f0) s.heap) (hf : Teller_find_b0 N n0 f0 v0 v3 = some y) (ls : Array Slot) (hl : lv_has ls 5 [(0, .long v0), (2, .ref o0), (3, .int v3)]) : W p l e rm_Teller_find s m args below meth c s.heap [] 0 0 (MQ below (zSi y) args s 0 0 (fun _ => False)) (F0 m 0 ls []) := by
  obtain ⟨hx, hb, hr, hml, hown, hT, hk, hK⟩ := id C0
  refine lv_iconst (v := 0) hx hb dX8_find_0 (by decide) ?_
  refine lv_istore (lv' := [(4, .int 0), (0, .long v0), (2, .ref o0), (3, .int v3)]) hx hb dX8_find_1 hl (by decide) rfl (fun ls hl => ?_)
  exact k_Teller_find_h3 C0 n0 f0 v0 v3  hP N 0 hf _ (lv_sub hl [1, 2, 3, 0] rfl)
set_option maxHeartbeats 4000000 in
set_option maxRecDepth 100000 in
theorem c_Teller_find {l : Launch} {dC : Nat → ClassId} {dI : Nat → Nat → Nat} {cy : Nat → ClassId} {N : Nat} (o0 n0 : Nat) (f0 : Nat → Int64) (v0 : Int64) (v3 : Int32) {y : Int32} (hf : Teller_find N n0 f0 v0 v3 = some y) : Met l yX8_find (.code yX8_find cX8_find 5 (some .int) :: zt) rm_Teller_find (va_Pc [.long v0, .ref o0, .int v3] (zRd (dC, dI) cy (wd_Teller_find cy o0 n0 f0))) (zSi y) 0 0 (fun _ => False) :=
  zentR (by decide +kernel) (Nat.le_of_ble_eq_true rfl) (fun p e s m below meth c C0 hP ls hl => k_Teller_find_b0 C0 n0 f0 v0 v3 hP hf ls hl)
def wd_Teller_takeNewName (cy : Nat → ClassId) (o0 : Nat) (a0 : Nat → Nat) (g0 : Nat → Int32) (h0 : Nat → Int64) (o1 n1 : Nat) (f1 : Nat → Int64) (a2 : Nat → Nat) (g2 : Nat → Int32) (h2 : Nat → Int64) (x2_1 : Nat → Int32) (x2_2 : Nat → Int32) (x2_3 : Nat → Int64) : va_W := [(o0, .inr (8, fs_Teller a0 g0 h0)), (o1, .inl (cy 1, n1, .inr (.inl f1))), ((a0 2), .inr (6, fs_Reader a2 g2 h2)), (a2 1, .inl (cy 0, 205, .inl x2_1)), (a2 2, .inl (cy 0, 205, .inl x2_2)), (a2 3, .inl (cy 1, 205, .inr (.inl x2_3)))]
def rm_Teller_takeNewName : Room := { frames := 4, cells := 0, slots := 0, locals := 103 }
theorem rm_ok_Teller_takeNewName_Teller_find : rm_Teller_find.cells = 0 ∧ rm_Teller_find.slots = 0 ∧ rm_Teller_find.frames + 1 ≤ rm_Teller_takeNewName.frames ∧ 8 + (5 + 11) + rm_Teller_find.locals ≤ rm_Teller_takeNewName.locals := by decide
theorem rm_ok_Teller_takeNewName_Teller_refuse : rm_Teller_refuse.cells = 0 ∧ rm_Teller_refuse.slots = 0 ∧ rm_Teller_refuse.frames + 1 ≤ rm_Teller_takeNewName.frames ∧ 8 + (2 + 11) + rm_Teller_refuse.locals ≤ rm_Teller_takeNewName.locals := by decide
theorem rm_ok_Teller_takeNewName_Teller_takeName : rm_Teller_takeName.cells = 0 ∧ rm_Teller_takeName.slots = 0 ∧ rm_Teller_takeName.frames + 1 ≤ rm_Teller_takeNewName.frames ∧ 8 + (1 + 11) + rm_Teller_takeName.locals ≤ rm_Teller_takeNewName.locals := by decide
set_option maxHeartbeats 4000000 in
set_option maxRecDepth 100000 in
theorem k_Teller_takeNewName_b28 {p : Program} {l : Launch} {e : Env} {s : State} {m : MethodId} {args : Array Value} {below : List Frame} {meth : Method} {c : Code} {dC : Nat → ClassId} {dI : Nat → Nat → Nat} {cy : Nat → ClassId} {A : Nat → Prop} {o0 : Nat} {a0 : Nat → Nat} {o1 : Nat} {a2 : Nat → Nat} {N : Nat} {y : Int32 × zSt} (C0 : zCx p s m args meth c cX8_takeNewName 3 (some .boolean) RX8 (dC, dI) cy) (s0 : zSt) (n1 : Nat) (f1 : Nat → Int64) (s2 : zSt) (hA : ∀ q, s.heap.size ≤ q → A q) {H : Heap} {locs : List Loc} (hP : va_P (dC, dI) vwCl (wd_Teller_takeNewName cy o0 a0 (zI s0) (zL s0) o1 n1 f1 a2 (zI s2) (zL s2) (zA s2 1) (zA s2 2) (zB s2 3)) H) (hD : va_D A (wd_Teller_takeNewName cy o0 a0 (zI s0) (zL s0) o1 n1 f1 a2 (zI s2) (zL s2) (zA s2 1) (zA s2 2) (zB s2 3))) (hS : va_S A s.heap H locs) (hf : Teller_takeNewName_b28 N s0 n1 f1 s2 = some y) (ls : Array Slot) (hl : lv_has ls 3 []) : W p l e rm_Teller_takeNewName s m args below meth c H locs 0 0 (MQ below (zQi y.1 (dC, dI) cy (wd_Teller_takeNewName cy o0 a0 (zI y.2) (zL y.2) o1 n1 f1 a2 (zI s2) (zL s2) (zA s2 1) (zA s2 2) (zB s2 3)) A) args s 0 0 A) (F0 m 28 ls []) := by
  obtain ⟨hx, hb, hr, hml, hown, hT, hk, hK⟩ := id C0
  refine lv_iconst (v := 1) hx hb dX8_takeNewName_28 (by decide) ?_
  refine lv_goto (tgt := 33) hx hb dX8_takeNewName_29 (by decide) ?_
  cases hf
  exact zewz hx hb hr hk (Or.inr rfl) hK hP hD hS dX8_takeNewName_33
set_option maxHeartbeats 4000000 in
set_option maxRecDepth 100000 in
theorem k_Teller_takeNewName_b0 {p : Program} {l : Launch} {e : Env} {s : State} {m : MethodId} {args : Array Value} {below : List Frame} {meth : Method} {c : Code} {dC : Nat → ClassId} {dI : Nat → Nat → Nat} {cy : Nat → ClassId} {A : Nat → Prop} {o0 : Nat} {a0 : Nat → Nat} {o1 : Nat} {a2 : Nat → Nat} {N : Nat} {y : Int32 × zSt} (C0 : zCx p s m args meth c cX8_takeNewName 3 (some .boolean) RX8 (dC, dI) cy) (s0 : zSt) (n1 : Nat) (f1 : Nat → Int64) (s2 : zSt) (v2 : Int32) (hA : ∀ q, s.heap.size ≤ q → A q) {H : Heap} {locs : List Loc} (hP : va_P (dC, dI) vwCl (wd_Teller_takeNewName cy o0 a0 (zI s0) (zL s0) o1 n1 f1 a2 (zI s2) (zL s2) (zA s2 1) (zA s2 2) (zB s2 3)) H) (hD : va_D A (wd_Teller_takeNewName cy o0 a0 (zI s0) (zL s0) o1 n1 f1 a2 (zI s2) (zL s2) (zA s2 1) (zA s2 2) (zB s2 3))) (hS : va_S A s.heap H locs) (hf : Teller_takeNewName_b0 N s0 n1 f1 s2 v2 = some y) (ls : Array Slot) (hl : lv_has ls 3 [(0, .ref o0), (1, .ref o1), (2, .int v2)]) : W p l e rm_Teller_takeNewName s m args below meth c H locs 0 0 (MQ below (zQi y.1 (dC, dI) cy (wd_Teller_takeNewName cy o0 a0 (zI y.2) (zL y.2) o1 n1 f1 a2 (zI s2) (zL s2) (zA s2 1) (zA s2 2) (zB s2 3)) A) args s 0 0 A) (F0 m 0 ls []) := by
  obtain ⟨hx, hb, hr, hml, hown, hT, hk, hK⟩ := id C0
  refine lv_aload_n hx hb dX8_takeNewName_0 rfl (lv_at hl 0 rfl) ?_
  obtain ⟨z1, hc2, hf⟩ := zbd_some hf
  refine zwi (wr := [(o1, .inl (cy 1, n1, .inr (.inl f1)))]) (ws' := (wd_Teller_takeNewName cy o0 a0 (zI z1.2) (zL z1.2) o1 n1 f1 a2 (zI s2) (zL s2) (zA s2 1) (zA s2 2) (zB s2 3))) (zV (As := []) hx hb hml hown hT hl.1 (c_Teller_takeName o0 a0 s0 a2 s2 hc2) zY_Teller_takeName tb_567 (zpRw hK hP hD [0, 2, 3, 4, 5] (by decide) rfl 0 8 rfl rfl rfl rfl) rm_ok_Teller_takeNewName_Teller_takeName rfl rfl (Nat.le_of_ble_eq_true rfl) dX8_takeNewName_1 ⟨Nat.zero_le _, Nat.zero_le _⟩) hP hD hS hA [0, 2, 3, 4, 5] [1] [1, 0, 2, 3, 4, 5] rfl rfl (by decide) (by decide) (by decide) rfl rfl (fun H locs hP hD hS => ?_)
  refine lv_if_eq (tgt := 32) hx hb dX8_takeNewName_4 (by decide) (fun hb_3 => ?_) (fun hb_3 => ?_)
  · have hf := zif_t hb_3 hf
    refine lv_iconst (v := 0) hx hb dX8_takeNewName_32 (by decide) ?_
    cases hf
    exact zewz hx hb hr hk (Or.inl rfl) hK hP hD hS dX8_takeNewName_33
  · have hf := zif_f hb_3 hf
    refine lv_aload_n hx hb dX8_takeNewName_7 rfl (lv_at hl 0 rfl) ?_
    refine zget (v := .long (zL z1.2 5)) hx hb hown hT hK hP inX8 rfl smX8 0 rfl 5 (by decide) tb_73 rfl dX8_takeNewName_8 ?_
    refine lv_aload_n hx hb dX8_takeNewName_11 rfl (lv_at hl 1 rfl) ?_
    refine lv_iload_n hx hb dX8_takeNewName_12 rfl (lv_at hl 2 rfl) ?_
    obtain ⟨z4, hc5, hf⟩ := zbd_some hf
    refine zri (zS (As := [.long (zL z1.2 5), .ref o1, .int v2]) hx hb hml hown hT hl.1 (c_Teller_find o1 n1 f1 (zL z1.2 5) v2 hc5) zY_Teller_find tb_582 (zpS hK hP [1] rfl) rm_ok_Teller_takeNewName_Teller_find rfl rfl (Nat.le_of_ble_eq_true rfl) dX8_takeNewName_13 ⟨Nat.zero_le _, Nat.zero_le _⟩) ?_
    refine lv_iconst (v := (-1)) hx hb dX8_takeNewName_16 (by decide) ?_
    refine lv_icmp_eq (tgt := 28) hx hb dX8_takeNewName_17 (by decide) (fun hb_6 => ?_) (fun hb_6 => ?_)
    · have hf := zif_t hb_6 hf
      exact k_Teller_takeNewName_b28 C0 z1.2 n1 f1 s2  hA hP hD hS hf _ (lv_sub hl [] rfl)
    · have hf := zif_f hb_6 hf
      refine lv_aload_n hx hb dX8_takeNewName_20 rfl (lv_at hl 0 rfl) ?_
      refine lv_iconst (v := 3) hx hb dX8_takeNewName_21 (by decide) ?_
      obtain ⟨z7, hc8, hf⟩ := zbd_some hf
      refine zwi (wr := [(o1, .inl (cy 1, n1, .inr (.inl f1))), ((a0 2), .inr (6, fs_Reader a2 (zI s2) (zL s2))), (a2 1, .inl (cy 0, 205, .inl (zA s2 1))), (a2 2, .inl (cy 0, 205, .inl (zA s2 2))), (a2 3, .inl (cy 1, 205, .inr (.inl (zB s2 3))))]) (ws' := (wd_Teller_takeNewName cy o0 a0 (zI z7.2) (zL z7.2) o1 n1 f1 a2 (zI s2) (zL s2) (zA s2 1) (zA s2 2) (zB s2 3))) (zV (As := [.int 3]) hx hb hml hown hT hl.1 (c_Teller_refuse o0 a0 z1.2 3 hc8) zY_Teller_refuse tb_554 (zpRw hK hP hD [0] (by decide) rfl 0 8 rfl rfl rfl rfl) rm_ok_Teller_takeNewName_Teller_refuse rfl rfl (Nat.le_of_ble_eq_true rfl) dX8_takeNewName_22 ⟨Nat.zero_le _, Nat.zero_le _⟩) hP hD hS hA [0] [1, 2, 3, 4, 5] [5, 0, 1, 2, 3, 4] rfl rfl (by decide) (by decide) (by decide) rfl rfl (fun H locs hP hD hS => ?_)
      refine lv_if_eq (tgt := 32) hx hb dX8_takeNewName_25 (by decide) (fun hb_9 => ?_) (fun hb_9 => ?_)
      · have hf := zif_t hb_9 hf
        refine lv_iconst (v := 0) hx hb dX8_takeNewName_32 (by decide) ?_
        cases hf
        exact zewz hx hb hr hk (Or.inl rfl) hK hP hD hS dX8_takeNewName_33
      · have hf := zif_f hb_9 hf
        exact k_Teller_takeNewName_b28 C0 z7.2 n1 f1 s2  hA hP hD hS hf _ (lv_sub hl [] rfl)
set_option maxHeartbeats 4000000 in
set_option maxRecDepth 100000 in
theorem c_Teller_takeNewName {l : Launch} {dC : Nat → ClassId} {dI : Nat → Nat → Nat} {cy : Nat → ClassId} {sz : Nat} {N : Nat} (o0 : Nat) (a0 : Nat → Nat) (s0 : zSt) (o1 n1 : Nat) (f1 : Nat → Int64) (a2 : Nat → Nat) (s2 : zSt) (v2 : Int32) {y : Int32 × zSt} (hf : Teller_takeNewName N s0 n1 f1 s2 v2 = some y) : Met l yX8_takeNewName (.code yX8_takeNewName cX8_takeNewName 3 (some .boolean) :: zt) rm_Teller_takeNewName (va_Pc [.ref o0, .ref o1, .int v2] (zPre (dC, dI) cy (wd_Teller_takeNewName cy o0 a0 (zI s0) (zL s0) o1 n1 f1 a2 (zI s2) (zL s2) (zA s2 1) (zA s2 2) (zB s2 3)) sz)) (zQi y.1 (dC, dI) cy (wd_Teller_takeNewName cy o0 a0 (zI y.2) (zL y.2) o1 n1 f1 a2 (zI s2) (zL s2) (zA s2 1) (zA s2 2) (zB s2 3)) (va_A (wd_Teller_takeNewName cy o0 a0 (zI s0) (zL s0) o1 n1 f1 a2 (zI s2) (zL s2) (zA s2 1) (zA s2 2) (zB s2 3)) sz)) 0 0 (va_A (wd_Teller_takeNewName cy o0 a0 (zI s0) (zL s0) o1 n1 f1 a2 (zI s2) (zL s2) (zA s2 1) (zA s2 2) (zB s2 3)) sz) :=
  zentW (Qw := fun A => (zQi y.1 (dC, dI) cy (wd_Teller_takeNewName cy o0 a0 (zI y.2) (zL y.2) o1 n1 f1 a2 (zI s2) (zL s2) (zA s2 1) (zA s2 2) (zB s2 3)) A)) (by decide +kernel) (Nat.le_of_ble_eq_true rfl) (fun p e s m below meth c A C0 hA hP hD hS ls hl => k_Teller_takeNewName_b0 C0 s0 n1 f1 s2 v2 hA hP hD hS hf ls hl)
def wd_Valley_addHerd (cy : Nat → ClassId) (o0 : Nat) (a0 : Nat → Nat) (g0 : Nat → Int32) (h0 : Nat → Int64) (x0_1 : Nat → Int64) (x0_2 : Nat → Int32) : va_W := [(o0, .inr (9, fs_Valley a0 g0 h0)), (a0 1, .inl (cy 1, 3, .inr (.inl x0_1))), (a0 2, .inl (cy 0, 3, .inl x0_2))]
def rm_Valley_addHerd : Room := { frames := 1, cells := 0, slots := 0, locals := 40 }
set_option maxHeartbeats 4000000 in
set_option maxRecDepth 100000 in
theorem k_Valley_addHerd_b0 {p : Program} {l : Launch} {e : Env} {s : State} {m : MethodId} {args : Array Value} {below : List Frame} {meth : Method} {c : Code} {dC : Nat → ClassId} {dI : Nat → Nat → Nat} {cy : Nat → ClassId} {A : Nat → Prop} {o0 : Nat} {a0 : Nat → Nat} {N : Nat} {y : zSt} (C0 : zCx p s m args meth c cX9_addHerd 3 none RX9 (dC, dI) cy) (s0 : zSt) (v1 : Int64) (hA : ∀ q, s.heap.size ≤ q → A q) {H : Heap} {locs : List Loc} (hP : va_P (dC, dI) vwCl (wd_Valley_addHerd cy o0 a0 (zI s0) (zL s0) (zB s0 1) (zA s0 2)) H) (hD : va_D A (wd_Valley_addHerd cy o0 a0 (zI s0) (zL s0) (zB s0 1) (zA s0 2))) (hS : va_S A s.heap H locs) (hf : Valley_addHerd_b0 N s0 v1 = some y) (ls : Array Slot) (hl : lv_has ls 3 [(0, .ref o0), (1, .long v1)]) : W p l e rm_Valley_addHerd s m args below meth c H locs 0 0 (MQ below (zQv (dC, dI) cy (wd_Valley_addHerd cy o0 a0 (zI y) (zL y) (zB y 1) (zA y 2)) A) args s 0 0 A) (F0 m 0 ls []) := by
  obtain ⟨hx, hb, hr, hml, hown, hT, hk, hK⟩ := id C0
  refine lv_aload_n hx hb dX9_addHerd_0 rfl (lv_at hl 0 rfl) ?_
  refine zget (v := .ref (a0 1)) hx hb hown hT hK hP inX9 rfl smX9 0 rfl 1 (by decide) tb_97 rfl dX9_addHerd_1 ?_
  refine lv_aload_n hx hb dX9_addHerd_4 rfl (lv_at hl 0 rfl) ?_
  refine zget (v := .int (zI s0 0)) hx hb hown hT hK hP inX9 rfl smX9 0 rfl 0 (by decide) tb_93 rfl dX9_addHerd_5 ?_
  refine lv_lload_n hx hb dX9_addHerd_8 rfl (lv_at hl 1 rfl) ?_
  obtain ⟨hi1, hf⟩ := zck_some hf
  refine zlst (ws' := (wd_Valley_addHerd cy o0 a0 (zI s0) (zL s0) (vp_updL (zB s0 1) (Int32.toNatClampNeg (zI s0 0)) v1) (zA s0 2))) hx hb hK hP hD hS 1 1 rfl rfl hi1 rfl dX9_addHerd_9 (fun H locs hP hD hS => ?_)
  refine lv_aload_n hx hb dX9_addHerd_10 rfl (lv_at hl 0 rfl) ?_
  refine zget (v := .ref (a0 2)) hx hb hown hT hK hP inX9 rfl smX9 0 rfl 2 (by decide) tb_99 rfl dX9_addHerd_11 ?_
  refine lv_aload_n hx hb dX9_addHerd_14 rfl (lv_at hl 0 rfl) ?_
  refine zget (v := .int (zI s0 0)) hx hb hown hT hK hP inX9 rfl smX9 0 rfl 0 (by decide) tb_93 rfl dX9_addHerd_15 ?_
  refine lv_iconst (v := 0) hx hb dX9_addHerd_18 (by decide) ?_
  obtain ⟨hi2, hf⟩ := zck_some hf
  refine zast (ws' := (wd_Valley_addHerd cy o0 a0 (zI s0) (zL s0) (vp_updL (zB s0 1) (Int32.toNatClampNeg (zI s0 0)) v1) (upd (zA s0 2) (Int32.toNatClampNeg (zI s0 0)) 0))) hx hb hK hP hD hS 2 0 rfl rfl hi2 rfl dX9_addHerd_19 (fun H locs hP hD hS => ?_)
  refine lv_aload_n hx hb dX9_addHerd_20 rfl (lv_at hl 0 rfl) ?_
  refine lv_dup hx hb dX9_addHerd_21 rfl ?_
  refine zget (v := .int (zI s0 0)) hx hb hown hT hK hP inX9 rfl smX9 0 rfl 0 (by decide) tb_93 rfl dX9_addHerd_22 ?_
  refine lv_iconst (v := 1) hx hb dX9_addHerd_25 (by decide) ?_
  refine lv_iadd hx hb dX9_addHerd_26 ?_
  refine zput (fs' := fs_Valley a0 (upd (zI s0) 0 ((zI s0 0) + 1)) (zL s0)) (ws' := (wd_Valley_addHerd cy o0 a0 (upd (zI s0) 0 ((zI s0 0) + 1)) (zL s0) (vp_updL (zB s0 1) (Int32.toNatClampNeg (zI s0 0)) v1) (upd (zA s0 2) (Int32.toNatClampNeg (zI s0 0)) 0))) hx hb hown hT hK hP hD hS inX9 rfl smX9 tyX9_ok nmX9 0 rfl 0 (by decide) tb_93 rfl rfl rfl (Nat.le_of_ble_eq_true rfl) rfl rfl dX9_addHerd_27 (fun H locs hP hD hS => ?_)
  cases hf
  exact zewv hx hb hr hk hK hP hD hS dX9_addHerd_30
set_option maxHeartbeats 4000000 in
set_option maxRecDepth 100000 in
theorem c_Valley_addHerd {l : Launch} {dC : Nat → ClassId} {dI : Nat → Nat → Nat} {cy : Nat → ClassId} {sz : Nat} {N : Nat} (o0 : Nat) (a0 : Nat → Nat) (s0 : zSt) (v1 : Int64) {y : zSt} (hf : Valley_addHerd N s0 v1 = some y) : Met l yX9_addHerd (.code yX9_addHerd cX9_addHerd 3 none :: zt) rm_Valley_addHerd (va_Pc [.ref o0, .long v1] (zPre (dC, dI) cy (wd_Valley_addHerd cy o0 a0 (zI s0) (zL s0) (zB s0 1) (zA s0 2)) sz)) (zQv (dC, dI) cy (wd_Valley_addHerd cy o0 a0 (zI y) (zL y) (zB y 1) (zA y 2)) (va_A (wd_Valley_addHerd cy o0 a0 (zI s0) (zL s0) (zB s0 1) (zA s0 2)) sz)) 0 0 (va_A (wd_Valley_addHerd cy o0 a0 (zI s0) (zL s0) (zB s0 1) (zA s0 2)) sz) :=
  zentW (Qw := fun A => (zQv (dC, dI) cy (wd_Valley_addHerd cy o0 a0 (zI y) (zL y) (zB y 1) (zA y 2)) A)) (by decide +kernel) (Nat.le_of_ble_eq_true rfl) (fun p e s m below meth c A C0 hA hP hD hS ls hl => k_Valley_addHerd_b0 C0 s0 v1 hA hP hD hS hf ls hl)
def wd_Teller_tellHerd (cy : Nat → ClassId) (o0 : Nat) (a0 : Nat → Nat) (g0 : Nat → Int32) (h0 : Nat → Int64) (o1 : Nat) (a1 : Nat → Nat) (g1 : Nat → Int32) (h1 : Nat → Int64) (x1_1 : Nat → Int64) (x1_2 : Nat → Int32) (a2 : Nat → Nat) (g2 : Nat → Int32) (h2 : Nat → Int64) (x2_1 : Nat → Int32) (x2_2 : Nat → Int32) (x2_3 : Nat → Int64) : va_W := [(o0, .inr (8, fs_Teller a0 g0 h0)), (o1, .inr (9, fs_Valley a1 g1 h1)), (a1 1, .inl (cy 1, 3, .inr (.inl x1_1))), (a1 2, .inl (cy 0, 3, .inl x1_2)), ((a0 2), .inr (6, fs_Reader a2 g2 h2)), (a2 1, .inl (cy 0, 205, .inl x2_1)), (a2 2, .inl (cy 0, 205, .inl x2_2)), (a2 3, .inl (cy 1, 205, .inr (.inl x2_3)))]
def rm_Teller_tellHerd : Room := { frames := 5, cells := 0, slots := 0, locals := 125 }
theorem rm_ok_Teller_tellHerd_Teller_refuse : rm_Teller_refuse.cells = 0 ∧ rm_Teller_refuse.slots = 0 ∧ rm_Teller_refuse.frames + 1 ≤ rm_Teller_tellHerd.frames ∧ 8 + (2 + 11) + rm_Teller_refuse.locals ≤ rm_Teller_tellHerd.locals := by decide
theorem rm_ok_Teller_tellHerd_Teller_take : rm_Teller_take.cells = 0 ∧ rm_Teller_take.slots = 0 ∧ rm_Teller_take.frames + 1 ≤ rm_Teller_tellHerd.frames ∧ 8 + (3 + 11) + rm_Teller_take.locals ≤ rm_Teller_tellHerd.locals := by decide
theorem rm_ok_Teller_tellHerd_Teller_takeNewName : rm_Teller_takeNewName.cells = 0 ∧ rm_Teller_takeNewName.slots = 0 ∧ rm_Teller_takeNewName.frames + 1 ≤ rm_Teller_tellHerd.frames ∧ 8 + (3 + 11) + rm_Teller_takeNewName.locals ≤ rm_Teller_tellHerd.locals := by decide
theorem rm_ok_Teller_tellHerd_Valley_addHerd : rm_Valley_addHerd.cells = 0 ∧ rm_Valley_addHerd.slots = 0 ∧ rm_Valley_addHerd.frames + 1 ≤ rm_Teller_tellHerd.frames ∧ 8 + (3 + 11) + rm_Valley_addHerd.locals ≤ rm_Teller_tellHerd.locals := by decide
set_option maxHeartbeats 4000000 in
set_option maxRecDepth 100000 in
theorem k_Teller_tellHerd_b0 {p : Program} {l : Launch} {e : Env} {s : State} {m : MethodId} {args : Array Value} {below : List Frame} {meth : Method} {c : Code} {dC : Nat → ClassId} {dI : Nat → Nat → Nat} {cy : Nat → ClassId} {A : Nat → Prop} {o0 : Nat} {a0 : Nat → Nat} {o1 : Nat} {a1 : Nat → Nat} {a2 : Nat → Nat} {N : Nat} {y : Int32 × zSt × zSt} (C0 : zCx p s m args meth c cX8_tellHerd 4 (some .boolean) RX8 (dC, dI) cy) (s0 : zSt) (s1 : zSt) (s2 : zSt) (hA : ∀ q, s.heap.size ≤ q → A q) {H : Heap} {locs : List Loc} (hP : va_P (dC, dI) vwCl (wd_Teller_tellHerd cy o0 a0 (zI s0) (zL s0) o1 a1 (zI s1) (zL s1) (zB s1 1) (zA s1 2) a2 (zI s2) (zL s2) (zA s2 1) (zA s2 2) (zB s2 3)) H) (hD : va_D A (wd_Teller_tellHerd cy o0 a0 (zI s0) (zL s0) o1 a1 (zI s1) (zL s1) (zB s1 1) (zA s1 2) a2 (zI s2) (zL s2) (zA s2 1) (zA s2 2) (zB s2 3))) (hS : va_S A s.heap H locs) (hf : Teller_tellHerd_b0 N s0 s1 s2 = some y) (ls : Array Slot) (hl : lv_has ls 4 [(0, .ref o0), (1, .ref o1)]) : W p l e rm_Teller_tellHerd s m args below meth c H locs 0 0 (MQ below (zQi y.1 (dC, dI) cy (wd_Teller_tellHerd cy o0 a0 (zI y.2.1) (zL y.2.1) o1 a1 (zI y.2.2) (zL y.2.2) (zB y.2.2 1) (zA y.2.2 2) a2 (zI s2) (zL s2) (zA s2 1) (zA s2 2) (zB s2 3)) A) args s 0 0 A) (F0 m 0 ls []) := by
  obtain ⟨hx, hb, hr, hml, hown, hT, hk, hK⟩ := id C0
  refine lv_aload_n hx hb dX8_tellHerd_0 rfl (lv_at hl 1 rfl) ?_
  refine zget (v := .int (zI s1 0)) hx hb hown hT hK hP inX9 rfl smX9 1 rfl 0 (by decide) tb_94 rfl dX8_tellHerd_1 ?_
  refine lv_iconst (v := 3) hx hb dX8_tellHerd_4 (by decide) ?_
  refine lv_icmp_lt (tgt := 14) hx hb dX8_tellHerd_5 (by decide) (fun hb_1 => ?_) (fun hb_1 => ?_)
  · have hf := zif_t hb_1 hf
    refine lv_aload_n hx hb dX8_tellHerd_14 rfl (lv_at hl 0 rfl) ?_
    refine lv_aload_n hx hb dX8_tellHerd_15 rfl (lv_at hl 1 rfl) ?_
    refine zget (v := .ref (a1 1)) hx hb hown hT hK hP inX9 rfl smX9 1 rfl 1 (by decide) tb_98 rfl dX8_tellHerd_16 ?_
    refine lv_aload_n hx hb dX8_tellHerd_19 rfl (lv_at hl 1 rfl) ?_
    refine zget (v := .int (zI s1 0)) hx hb hown hT hK hP inX9 rfl smX9 1 rfl 0 (by decide) tb_94 rfl dX8_tellHerd_20 ?_
    obtain ⟨z2, hc3, hf⟩ := zbd_some hf
    refine zwi (wr := [(o1, .inr (9, fs_Valley a1 (zI s1) (zL s1))), (a1 2, .inl (cy 0, 3, .inl (zA s1 2)))]) (ws' := (wd_Teller_tellHerd cy o0 a0 (zI z2.2) (zL z2.2) o1 a1 (zI s1) (zL s1) (zB s1 1) (zA s1 2) a2 (zI s2) (zL s2) (zA s2 1) (zA s2 2) (zB s2 3))) (zV (As := [.ref (a1 1), .int (zI s1 0)]) hx hb hml hown hT hl.1 (c_Teller_takeNewName o0 a0 s0 (a1 1) 3 (zB s1 1) a2 s2 (zI s1 0) hc3) zY_Teller_takeNewName tb_563 (zpRw hK hP hD [0, 2, 4, 5, 6, 7] (by decide) rfl 0 8 rfl rfl rfl rfl) rm_ok_Teller_tellHerd_Teller_takeNewName rfl rfl (Nat.le_of_ble_eq_true rfl) dX8_tellHerd_23 ⟨Nat.zero_le _, Nat.zero_le _⟩) hP hD hS hA [0, 2, 4, 5, 6, 7] [1, 3] [2, 0, 3, 1, 4, 5, 6, 7] rfl rfl (by decide) (by decide) (by decide) rfl rfl (fun H locs hP hD hS => ?_)
    refine lv_if_ne (tgt := 31) hx hb dX8_tellHerd_26 (by decide) (fun hb_4 => ?_) (fun hb_4 => ?_)
    · have hf := zif_f hb_4 hf
      refine lv_aload_n hx hb dX8_tellHerd_31 rfl (lv_at hl 0 rfl) ?_
      refine zget (v := .long (zL z2.2 5)) hx hb hown hT hK hP inX8 rfl smX8 0 rfl 5 (by decide) tb_73 rfl dX8_tellHerd_32 ?_
      refine lv_lstore_n (lv' := [(2, .long (zL z2.2 5)), (0, .ref o0), (1, .ref o1)]) hx hb dX8_tellHerd_35 rfl hl (by decide) rfl (fun ls hl => ?_)
      refine lv_aload_n hx hb dX8_tellHerd_36 rfl (lv_at hl 1 rfl) ?_
      refine lv_iconst (v := 4) hx hb dX8_tellHerd_37 (by decide) ?_
      obtain ⟨z5, hc6, hf⟩ := zbd_some hf
      refine zwi (wr := [(o1, .inr (9, fs_Valley a1 (zI s1) (zL s1))), (a1 1, .inl (cy 1, 3, .inr (.inl (zB s1 1)))), (a1 2, .inl (cy 0, 3, .inl (zA s1 2)))]) (ws' := (wd_Teller_tellHerd cy o0 a0 (zI z5.2) (zL z5.2) o1 a1 (zI s1) (zL s1) (zB s1 1) (zA s1 2) a2 (zI s2) (zL s2) (zA s2 1) (zA s2 2) (zB s2 3))) (zV (As := [.int 4]) hx hb hml hown hT hl.1 (c_Teller_take o0 a0 z2.2 a2 s2 4 hc6) zY_Teller_take tb_550 (zpRw hK hP hD [0, 4, 5, 6, 7] (by decide) rfl 0 8 rfl rfl rfl rfl) rm_ok_Teller_tellHerd_Teller_take rfl rfl (Nat.le_of_ble_eq_true rfl) dX8_tellHerd_38 ⟨Nat.zero_le _, Nat.zero_le _⟩) hP hD hS hA [0, 4, 5, 6, 7] [1, 2, 3] [3, 0, 1, 2, 4, 5, 6, 7] rfl rfl (by decide) (by decide) (by decide) rfl rfl (fun H locs hP hD hS => ?_)
      refine lv_if_ne (tgt := 46) hx hb dX8_tellHerd_41 (by decide) (fun hb_7 => ?_) (fun hb_7 => ?_)
      · have hf := zif_f hb_7 hf
        refine lv_aload_n hx hb dX8_tellHerd_46 rfl (lv_at hl 2 rfl) ?_
        refine lv_lload_n hx hb dX8_tellHerd_47 rfl (lv_at hl 0 rfl) ?_
        obtain ⟨z8, hc9, hf⟩ := zbd_some hf
        refine zwv (wr := [(o0, .inr (8, fs_Teller a0 (zI z5.2) (zL z5.2))), ((a0 2), .inr (6, fs_Reader a2 (zI s2) (zL s2))), (a2 1, .inl (cy 0, 205, .inl (zA s2 1))), (a2 2, .inl (cy 0, 205, .inl (zA s2 2))), (a2 3, .inl (cy 1, 205, .inr (.inl (zB s2 3))))]) (ws' := (wd_Teller_tellHerd cy o0 a0 (zI z5.2) (zL z5.2) o1 a1 (zI z8) (zL z8) (zB z8 1) (zA z8 2) a2 (zI s2) (zL s2) (zA s2 1) (zA s2 2) (zB s2 3))) (zV (As := [.long (zL z2.2 5)]) hx hb hml hown hT hl.1 (c_Valley_addHerd o1 a1 s1 (zL z2.2 5) hc9) zY_Valley_addHerd tb_585 (zpRw hK hP hD [1, 2, 3] (by decide) rfl 0 9 rfl rfl rfl rfl) rm_ok_Teller_tellHerd_Valley_addHerd rfl rfl (Nat.le_of_ble_eq_true rfl) dX8_tellHerd_48 ⟨Nat.zero_le _, Nat.zero_le _⟩) hP hD hS hA [1, 2, 3] [0, 4, 5, 6, 7] [0, 5, 6, 7, 1, 2, 3, 4] rfl rfl (by decide) (by decide) (by decide) rfl rfl (fun H locs hP hD hS => ?_)
        refine lv_iconst (v := 1) hx hb dX8_tellHerd_51 (by decide) ?_
        cases hf
        exact zewz hx hb hr hk (Or.inr rfl) hK hP hD hS dX8_tellHerd_52
      · have hf := zif_t hb_7 hf
        refine lv_iconst (v := 0) hx hb dX8_tellHerd_44 (by decide) ?_
        cases hf
        exact zewz hx hb hr hk (Or.inl rfl) hK hP hD hS dX8_tellHerd_45
    · have hf := zif_t hb_4 hf
      refine lv_iconst (v := 0) hx hb dX8_tellHerd_29 (by decide) ?_
      cases hf
      exact zewz hx hb hr hk (Or.inl rfl) hK hP hD hS dX8_tellHerd_30
  · have hf := zif_f hb_1 hf
    refine lv_aload_n hx hb dX8_tellHerd_8 rfl (lv_at hl 0 rfl) ?_
    refine lv_iconst (v := 2) hx hb dX8_tellHerd_9 (by decide) ?_
    obtain ⟨z10, hc11, hf⟩ := zbd_some hf
    refine zwi (wr := [(o1, .inr (9, fs_Valley a1 (zI s1) (zL s1))), (a1 1, .inl (cy 1, 3, .inr (.inl (zB s1 1)))), (a1 2, .inl (cy 0, 3, .inl (zA s1 2))), ((a0 2), .inr (6, fs_Reader a2 (zI s2) (zL s2))), (a2 1, .inl (cy 0, 205, .inl (zA s2 1))), (a2 2, .inl (cy 0, 205, .inl (zA s2 2))), (a2 3, .inl (cy 1, 205, .inr (.inl (zB s2 3))))]) (ws' := (wd_Teller_tellHerd cy o0 a0 (zI z10.2) (zL z10.2) o1 a1 (zI s1) (zL s1) (zB s1 1) (zA s1 2) a2 (zI s2) (zL s2) (zA s2 1) (zA s2 2) (zB s2 3))) (zV (As := [.int 2]) hx hb hml hown hT hl.1 (c_Teller_refuse o0 a0 s0 2 hc11) zY_Teller_refuse tb_554 (zpRw hK hP hD [0] (by decide) rfl 0 8 rfl rfl rfl rfl) rm_ok_Teller_tellHerd_Teller_refuse rfl rfl (Nat.le_of_ble_eq_true rfl) dX8_tellHerd_10 ⟨Nat.zero_le _, Nat.zero_le _⟩) hP hD hS hA [0] [1, 2, 3, 4, 5, 6, 7] [7, 0, 1, 2, 3, 4, 5, 6] rfl rfl (by decide) (by decide) (by decide) rfl rfl (fun H locs hP hD hS => ?_)
    obtain ⟨hq12, hf⟩ := zcb_some hf
    cases hf
    exact zewz hx hb hr hk hq12 hK hP hD hS dX8_tellHerd_13
set_option maxHeartbeats 4000000 in
set_option maxRecDepth 100000 in
theorem c_Teller_tellHerd {l : Launch} {dC : Nat → ClassId} {dI : Nat → Nat → Nat} {cy : Nat → ClassId} {sz : Nat} {N : Nat} (o0 : Nat) (a0 : Nat → Nat) (s0 : zSt) (o1 : Nat) (a1 : Nat → Nat) (s1 : zSt) (a2 : Nat → Nat) (s2 : zSt) {y : Int32 × zSt × zSt} (hf : Teller_tellHerd N s0 s1 s2 = some y) : Met l yX8_tellHerd (.code yX8_tellHerd cX8_tellHerd 4 (some .boolean) :: zt) rm_Teller_tellHerd (va_Pc [.ref o0, .ref o1] (zPre (dC, dI) cy (wd_Teller_tellHerd cy o0 a0 (zI s0) (zL s0) o1 a1 (zI s1) (zL s1) (zB s1 1) (zA s1 2) a2 (zI s2) (zL s2) (zA s2 1) (zA s2 2) (zB s2 3)) sz)) (zQi y.1 (dC, dI) cy (wd_Teller_tellHerd cy o0 a0 (zI y.2.1) (zL y.2.1) o1 a1 (zI y.2.2) (zL y.2.2) (zB y.2.2 1) (zA y.2.2 2) a2 (zI s2) (zL s2) (zA s2 1) (zA s2 2) (zB s2 3)) (va_A (wd_Teller_tellHerd cy o0 a0 (zI s0) (zL s0) o1 a1 (zI s1) (zL s1) (zB s1 1) (zA s1 2) a2 (zI s2) (zL s2) (zA s2 1) (zA s2 2) (zB s2 3)) sz)) 0 0 (va_A (wd_Teller_tellHerd cy o0 a0 (zI s0) (zL s0) o1 a1 (zI s1) (zL s1) (zB s1 1) (zA s1 2) a2 (zI s2) (zL s2) (zA s2 1) (zA s2 2) (zB s2 3)) sz) :=
  zentW (Qw := fun A => (zQi y.1 (dC, dI) cy (wd_Teller_tellHerd cy o0 a0 (zI y.2.1) (zL y.2.1) o1 a1 (zI y.2.2) (zL y.2.2) (zB y.2.2 1) (zA y.2.2 2) a2 (zI s2) (zL s2) (zA s2 1) (zA s2 2) (zB s2 3)) A)) (by decide +kernel) (Nat.le_of_ble_eq_true rfl) (fun p e s m below meth c A C0 hA hP hD hS ls hl => k_Teller_tellHerd_b0 C0 s0 s1 s2 hA hP hD hS hf ls hl)
def wd_Teller_takeWord (cy : Nat → ClassId) (o0 : Nat) (a0 : Nat → Nat) (g0 : Nat → Int32) (h0 : Nat → Int64) (a1 : Nat → Nat) (g1 : Nat → Int32) (h1 : Nat → Int64) (x1_1 : Nat → Int32) (x1_2 : Nat → Int32) (x1_3 : Nat → Int64) : va_W := [(o0, .inr (8, fs_Teller a0 g0 h0)), ((a0 2), .inr (6, fs_Reader a1 g1 h1)), (a1 1, .inl (cy 0, 205, .inl x1_1)), (a1 2, .inl (cy 0, 205, .inl x1_2)), (a1 3, .inl (cy 1, 205, .inr (.inl x1_3)))]
def rm_Teller_takeWord : Room := { frames := 3, cells := 0, slots := 0, locals := 83 }
theorem rm_ok_Teller_takeWord_Teller_refuse : rm_Teller_refuse.cells = 0 ∧ rm_Teller_refuse.slots = 0 ∧ rm_Teller_refuse.frames + 1 ≤ rm_Teller_takeWord.frames ∧ 8 + (2 + 11) + rm_Teller_refuse.locals ≤ rm_Teller_takeWord.locals := by decide
theorem rm_ok_Teller_takeWord_Teller_take : rm_Teller_take.cells = 0 ∧ rm_Teller_take.slots = 0 ∧ rm_Teller_take.frames + 1 ≤ rm_Teller_takeWord.frames ∧ 8 + (3 + 11) + rm_Teller_take.locals ≤ rm_Teller_takeWord.locals := by decide
set_option maxHeartbeats 4000000 in
set_option maxRecDepth 100000 in
theorem k_Teller_takeWord_b25 {p : Program} {l : Launch} {e : Env} {s : State} {m : MethodId} {args : Array Value} {below : List Frame} {meth : Method} {c : Code} {dC : Nat → ClassId} {dI : Nat → Nat → Nat} {cy : Nat → ClassId} {A : Nat → Prop} {o0 : Nat} {a0 : Nat → Nat} {a1 : Nat → Nat} {N : Nat} {y : Int32 × zSt} (C0 : zCx p s m args meth c cX8_takeWord 3 (some .boolean) RX8 (dC, dI) cy) (s0 : zSt) (s1 : zSt) (hA : ∀ q, s.heap.size ≤ q → A q) {H : Heap} {locs : List Loc} (hP : va_P (dC, dI) vwCl (wd_Teller_takeWord cy o0 a0 (zI s0) (zL s0) a1 (zI s1) (zL s1) (zA s1 1) (zA s1 2) (zB s1 3)) H) (hD : va_D A (wd_Teller_takeWord cy o0 a0 (zI s0) (zL s0) a1 (zI s1) (zL s1) (zA s1 1) (zA s1 2) (zB s1 3))) (hS : va_S A s.heap H locs) (hf : Teller_takeWord_b25 N s0 s1 = some y) (ls : Array Slot) (hl : lv_has ls 3 []) : W p l e rm_Teller_takeWord s m args below meth c H locs 0 0 (MQ below (zQi y.1 (dC, dI) cy (wd_Teller_takeWord cy o0 a0 (zI y.2) (zL y.2) a1 (zI s1) (zL s1) (zA s1 1) (zA s1 2) (zB s1 3)) A) args s 0 0 A) (F0 m 25 ls []) := by
  obtain ⟨hx, hb, hr, hml, hown, hT, hk, hK⟩ := id C0
  refine lv_iconst (v := 1) hx hb dX8_takeWord_25 (by decide) ?_
  refine lv_goto (tgt := 30) hx hb dX8_takeWord_26 (by decide) ?_
  cases hf
  exact zewz hx hb hr hk (Or.inr rfl) hK hP hD hS dX8_takeWord_30
set_option maxHeartbeats 4000000 in
set_option maxRecDepth 100000 in
theorem k_Teller_takeWord_b0 {p : Program} {l : Launch} {e : Env} {s : State} {m : MethodId} {args : Array Value} {below : List Frame} {meth : Method} {c : Code} {dC : Nat → ClassId} {dI : Nat → Nat → Nat} {cy : Nat → ClassId} {A : Nat → Prop} {o0 : Nat} {a0 : Nat → Nat} {a1 : Nat → Nat} {N : Nat} {y : Int32 × zSt} (C0 : zCx p s m args meth c cX8_takeWord 3 (some .boolean) RX8 (dC, dI) cy) (s0 : zSt) (s1 : zSt) (v1 : Int64) (hA : ∀ q, s.heap.size ≤ q → A q) {H : Heap} {locs : List Loc} (hP : va_P (dC, dI) vwCl (wd_Teller_takeWord cy o0 a0 (zI s0) (zL s0) a1 (zI s1) (zL s1) (zA s1 1) (zA s1 2) (zB s1 3)) H) (hD : va_D A (wd_Teller_takeWord cy o0 a0 (zI s0) (zL s0) a1 (zI s1) (zL s1) (zA s1 1) (zA s1 2) (zB s1 3))) (hS : va_S A s.heap H locs) (hf : Teller_takeWord_b0 N s0 s1 v1 = some y) (ls : Array Slot) (hl : lv_has ls 3 [(0, .ref o0), (1, .long v1)]) : W p l e rm_Teller_takeWord s m args below meth c H locs 0 0 (MQ below (zQi y.1 (dC, dI) cy (wd_Teller_takeWord cy o0 a0 (zI y.2) (zL y.2) a1 (zI s1) (zL s1) (zA s1 1) (zA s1 2) (zB s1 3)) A) args s 0 0 A) (F0 m 0 ls []) := by
  obtain ⟨hx, hb, hr, hml, hown, hT, hk, hK⟩ := id C0
  refine lv_aload_n hx hb dX8_takeWord_0 rfl (lv_at hl 0 rfl) ?_
  refine lv_iconst (v := 2) hx hb dX8_takeWord_1 (by decide) ?_
  obtain ⟨z1, hc2, hf⟩ := zbd_some hf
  refine zwi (wr := []) (ws' := (wd_Teller_takeWord cy o0 a0 (zI z1.2) (zL z1.2) a1 (zI s1) (zL s1) (zA s1 1) (zA s1 2) (zB s1 3))) (zV (As := [.int 2]) hx hb hml hown hT hl.1 (c_Teller_take o0 a0 s0 a1 s1 2 hc2) zY_Teller_take tb_550 (zpRw hK hP hD [0, 1, 2, 3, 4] (by decide) rfl 0 8 rfl rfl rfl rfl) rm_ok_Teller_takeWord_Teller_take rfl rfl (Nat.le_of_ble_eq_true rfl) dX8_takeWord_2 ⟨Nat.zero_le _, Nat.zero_le _⟩) hP hD hS hA [0, 1, 2, 3, 4] [] [0, 1, 2, 3, 4] rfl rfl (by decide) (by decide) (by decide) rfl rfl (fun H locs hP hD hS => ?_)
  refine lv_if_eq (tgt := 29) hx hb dX8_takeWord_5 (by decide) (fun hb_3 => ?_) (fun hb_3 => ?_)
  · have hf := zif_t hb_3 hf
    refine lv_iconst (v := 0) hx hb dX8_takeWord_29 (by decide) ?_
    cases hf
    exact zewz hx hb hr hk (Or.inl rfl) hK hP hD hS dX8_takeWord_30
  · have hf := zif_f hb_3 hf
    refine lv_aload_n hx hb dX8_takeWord_8 rfl (lv_at hl 0 rfl) ?_
    refine zget (v := .long (zL z1.2 5)) hx hb hown hT hK hP inX8 rfl smX8 0 rfl 5 (by decide) tb_73 rfl dX8_takeWord_9 ?_
    refine lv_lload_n hx hb dX8_takeWord_12 rfl (lv_at hl 1 rfl) ?_
    refine W.lcmp hx hb dX8_takeWord_13 ?_
    refine lv_if_eq (tgt := 25) hx hb dX8_takeWord_14 (by decide) (fun hb_4 => ?_) (fun hb_4 => ?_)
    · have hf := zif_t hb_4 hf
      exact k_Teller_takeWord_b25 C0 z1.2 s1  hA hP hD hS hf _ (lv_sub hl [] rfl)
    · have hf := zif_f hb_4 hf
      refine lv_aload_n hx hb dX8_takeWord_17 rfl (lv_at hl 0 rfl) ?_
      refine lv_iconst (v := 2) hx hb dX8_takeWord_18 (by decide) ?_
      obtain ⟨z5, hc6, hf⟩ := zbd_some hf
      refine zwi (wr := [((a0 2), .inr (6, fs_Reader a1 (zI s1) (zL s1))), (a1 1, .inl (cy 0, 205, .inl (zA s1 1))), (a1 2, .inl (cy 0, 205, .inl (zA s1 2))), (a1 3, .inl (cy 1, 205, .inr (.inl (zB s1 3))))]) (ws' := (wd_Teller_takeWord cy o0 a0 (zI z5.2) (zL z5.2) a1 (zI s1) (zL s1) (zA s1 1) (zA s1 2) (zB s1 3))) (zV (As := [.int 2]) hx hb hml hown hT hl.1 (c_Teller_refuse o0 a0 z1.2 2 hc6) zY_Teller_refuse tb_554 (zpRw hK hP hD [0] (by decide) rfl 0 8 rfl rfl rfl rfl) rm_ok_Teller_takeWord_Teller_refuse rfl rfl (Nat.le_of_ble_eq_true rfl) dX8_takeWord_19 ⟨Nat.zero_le _, Nat.zero_le _⟩) hP hD hS hA [0] [1, 2, 3, 4] [4, 0, 1, 2, 3] rfl rfl (by decide) (by decide) (by decide) rfl rfl (fun H locs hP hD hS => ?_)
      refine lv_if_eq (tgt := 29) hx hb dX8_takeWord_22 (by decide) (fun hb_7 => ?_) (fun hb_7 => ?_)
      · have hf := zif_t hb_7 hf
        refine lv_iconst (v := 0) hx hb dX8_takeWord_29 (by decide) ?_
        cases hf
        exact zewz hx hb hr hk (Or.inl rfl) hK hP hD hS dX8_takeWord_30
      · have hf := zif_f hb_7 hf
        exact k_Teller_takeWord_b25 C0 z5.2 s1  hA hP hD hS hf _ (lv_sub hl [] rfl)
set_option maxHeartbeats 4000000 in
set_option maxRecDepth 100000 in
theorem c_Teller_takeWord {l : Launch} {dC : Nat → ClassId} {dI : Nat → Nat → Nat} {cy : Nat → ClassId} {sz : Nat} {N : Nat} (o0 : Nat) (a0 : Nat → Nat) (s0 : zSt) (a1 : Nat → Nat) (s1 : zSt) (v1 : Int64) {y : Int32 × zSt} (hf : Teller_takeWord N s0 s1 v1 = some y) : Met l yX8_takeWord (.code yX8_takeWord cX8_takeWord 3 (some .boolean) :: zt) rm_Teller_takeWord (va_Pc [.ref o0, .long v1] (zPre (dC, dI) cy (wd_Teller_takeWord cy o0 a0 (zI s0) (zL s0) a1 (zI s1) (zL s1) (zA s1 1) (zA s1 2) (zB s1 3)) sz)) (zQi y.1 (dC, dI) cy (wd_Teller_takeWord cy o0 a0 (zI y.2) (zL y.2) a1 (zI s1) (zL s1) (zA s1 1) (zA s1 2) (zB s1 3)) (va_A (wd_Teller_takeWord cy o0 a0 (zI s0) (zL s0) a1 (zI s1) (zL s1) (zA s1 1) (zA s1 2) (zB s1 3)) sz)) 0 0 (va_A (wd_Teller_takeWord cy o0 a0 (zI s0) (zL s0) a1 (zI s1) (zL s1) (zA s1 1) (zA s1 2) (zB s1 3)) sz) :=
  zentW (Qw := fun A => (zQi y.1 (dC, dI) cy (wd_Teller_takeWord cy o0 a0 (zI y.2) (zL y.2) a1 (zI s1) (zL s1) (zA s1 1) (zA s1 2) (zB s1 3)) A)) (by decide +kernel) (Nat.le_of_ble_eq_true rfl) (fun p e s m below meth c A C0 hA hP hD hS ls hl => k_Teller_takeWord_b0 C0 s0 s1 v1 hA hP hD hS hf ls hl)
def wd_Teller_takeNumber (cy : Nat → ClassId) (o0 : Nat) (a0 : Nat → Nat) (g0 : Nat → Int32) (h0 : Nat → Int64) (a1 : Nat → Nat) (g1 : Nat → Int32) (h1 : Nat → Int64) (x1_1 : Nat → Int32) (x1_2 : Nat → Int32) (x1_3 : Nat → Int64) : va_W := [(o0, .inr (8, fs_Teller a0 g0 h0)), ((a0 2), .inr (6, fs_Reader a1 g1 h1)), (a1 1, .inl (cy 0, 205, .inl x1_1)), (a1 2, .inl (cy 0, 205, .inl x1_2)), (a1 3, .inl (cy 1, 205, .inr (.inl x1_3)))]
def rm_Teller_takeNumber : Room := { frames := 3, cells := 0, slots := 0, locals := 83 }
theorem rm_ok_Teller_takeNumber_Teller_refuse : rm_Teller_refuse.cells = 0 ∧ rm_Teller_refuse.slots = 0 ∧ rm_Teller_refuse.frames + 1 ≤ rm_Teller_takeNumber.frames ∧ 8 + (2 + 11) + rm_Teller_refuse.locals ≤ rm_Teller_takeNumber.locals := by decide
theorem rm_ok_Teller_takeNumber_Teller_take : rm_Teller_take.cells = 0 ∧ rm_Teller_take.slots = 0 ∧ rm_Teller_take.frames + 1 ≤ rm_Teller_takeNumber.frames ∧ 8 + (3 + 11) + rm_Teller_take.locals ≤ rm_Teller_takeNumber.locals := by decide
set_option maxHeartbeats 4000000 in
set_option maxRecDepth 100000 in
theorem k_Teller_takeNumber_b36 {p : Program} {l : Launch} {e : Env} {s : State} {m : MethodId} {args : Array Value} {below : List Frame} {meth : Method} {c : Code} {dC : Nat → ClassId} {dI : Nat → Nat → Nat} {cy : Nat → ClassId} {A : Nat → Prop} {o0 : Nat} {a0 : Nat → Nat} {a1 : Nat → Nat} {N : Nat} {y : Int32 × zSt} (C0 : zCx p s m args meth c cX8_takeNumber 3 (some .boolean) RX8 (dC, dI) cy) (s0 : zSt) (s1 : zSt) (hA : ∀ q, s.heap.size ≤ q → A q) {H : Heap} {locs : List Loc} (hP : va_P (dC, dI) vwCl (wd_Teller_takeNumber cy o0 a0 (zI s0) (zL s0) a1 (zI s1) (zL s1) (zA s1 1) (zA s1 2) (zB s1 3)) H) (hD : va_D A (wd_Teller_takeNumber cy o0 a0 (zI s0) (zL s0) a1 (zI s1) (zL s1) (zA s1 1) (zA s1 2) (zB s1 3))) (hS : va_S A s.heap H locs) (hf : Teller_takeNumber_b36 N s0 s1 = some y) (ls : Array Slot) (hl : lv_has ls 3 []) : W p l e rm_Teller_takeNumber s m args below meth c H locs 0 0 (MQ below (zQi y.1 (dC, dI) cy (wd_Teller_takeNumber cy o0 a0 (zI y.2) (zL y.2) a1 (zI s1) (zL s1) (zA s1 1) (zA s1 2) (zB s1 3)) A) args s 0 0 A) (F0 m 36 ls []) := by
  obtain ⟨hx, hb, hr, hml, hown, hT, hk, hK⟩ := id C0
  refine lv_iconst (v := 1) hx hb dX8_takeNumber_36 (by decide) ?_
  refine lv_goto (tgt := 41) hx hb dX8_takeNumber_37 (by decide) ?_
  cases hf
  exact zewz hx hb hr hk (Or.inr rfl) hK hP hD hS dX8_takeNumber_41
set_option maxHeartbeats 4000000 in
set_option maxRecDepth 100000 in
theorem k_Teller_takeNumber_b28 {p : Program} {l : Launch} {e : Env} {s : State} {m : MethodId} {args : Array Value} {below : List Frame} {meth : Method} {c : Code} {dC : Nat → ClassId} {dI : Nat → Nat → Nat} {cy : Nat → ClassId} {A : Nat → Prop} {o0 : Nat} {a0 : Nat → Nat} {a1 : Nat → Nat} {N : Nat} {y : Int32 × zSt} (C0 : zCx p s m args meth c cX8_takeNumber 3 (some .boolean) RX8 (dC, dI) cy) (s0 : zSt) (s1 : zSt) (hA : ∀ q, s.heap.size ≤ q → A q) {H : Heap} {locs : List Loc} (hP : va_P (dC, dI) vwCl (wd_Teller_takeNumber cy o0 a0 (zI s0) (zL s0) a1 (zI s1) (zL s1) (zA s1 1) (zA s1 2) (zB s1 3)) H) (hD : va_D A (wd_Teller_takeNumber cy o0 a0 (zI s0) (zL s0) a1 (zI s1) (zL s1) (zA s1 1) (zA s1 2) (zB s1 3))) (hS : va_S A s.heap H locs) (hf : Teller_takeNumber_b28 N s0 s1 = some y) (ls : Array Slot) (hl : lv_has ls 3 [(0, .ref o0)]) : W p l e rm_Teller_takeNumber s m args below meth c H locs 0 0 (MQ below (zQi y.1 (dC, dI) cy (wd_Teller_takeNumber cy o0 a0 (zI y.2) (zL y.2) a1 (zI s1) (zL s1) (zA s1 1) (zA s1 2) (zB s1 3)) A) args s 0 0 A) (F0 m 28 ls []) := by
  obtain ⟨hx, hb, hr, hml, hown, hT, hk, hK⟩ := id C0
  refine lv_aload_n hx hb dX8_takeNumber_28 rfl (lv_at hl 0 rfl) ?_
  refine lv_iconst (v := 4) hx hb dX8_takeNumber_29 (by decide) ?_
  obtain ⟨z1, hc2, hf⟩ := zbd_some hf
  refine zwi (wr := [((a0 2), .inr (6, fs_Reader a1 (zI s1) (zL s1))), (a1 1, .inl (cy 0, 205, .inl (zA s1 1))), (a1 2, .inl (cy 0, 205, .inl (zA s1 2))), (a1 3, .inl (cy 1, 205, .inr (.inl (zB s1 3))))]) (ws' := (wd_Teller_takeNumber cy o0 a0 (zI z1.2) (zL z1.2) a1 (zI s1) (zL s1) (zA s1 1) (zA s1 2) (zB s1 3))) (zV (As := [.int 4]) hx hb hml hown hT hl.1 (c_Teller_refuse o0 a0 s0 4 hc2) zY_Teller_refuse tb_554 (zpRw hK hP hD [0] (by decide) rfl 0 8 rfl rfl rfl rfl) rm_ok_Teller_takeNumber_Teller_refuse rfl rfl (Nat.le_of_ble_eq_true rfl) dX8_takeNumber_30 ⟨Nat.zero_le _, Nat.zero_le _⟩) hP hD hS hA [0] [1, 2, 3, 4] [4, 0, 1, 2, 3] rfl rfl (by decide) (by decide) (by decide) rfl rfl (fun H locs hP hD hS => ?_)
  refine lv_if_eq (tgt := 40) hx hb dX8_takeNumber_33 (by decide) (fun hb_3 => ?_) (fun hb_3 => ?_)
  · have hf := zif_t hb_3 hf
    refine lv_iconst (v := 0) hx hb dX8_takeNumber_40 (by decide) ?_
    cases hf
    exact zewz hx hb hr hk (Or.inl rfl) hK hP hD hS dX8_takeNumber_41
  · have hf := zif_f hb_3 hf
    exact k_Teller_takeNumber_b36 C0 z1.2 s1  hA hP hD hS hf _ (lv_sub hl [] rfl)
set_option maxHeartbeats 4000000 in
set_option maxRecDepth 100000 in
theorem k_Teller_takeNumber_b0 {p : Program} {l : Launch} {e : Env} {s : State} {m : MethodId} {args : Array Value} {below : List Frame} {meth : Method} {c : Code} {dC : Nat → ClassId} {dI : Nat → Nat → Nat} {cy : Nat → ClassId} {A : Nat → Prop} {o0 : Nat} {a0 : Nat → Nat} {a1 : Nat → Nat} {N : Nat} {y : Int32 × zSt} (C0 : zCx p s m args meth c cX8_takeNumber 3 (some .boolean) RX8 (dC, dI) cy) (s0 : zSt) (s1 : zSt) (v1 : Int32) (v2 : Int32) (hA : ∀ q, s.heap.size ≤ q → A q) {H : Heap} {locs : List Loc} (hP : va_P (dC, dI) vwCl (wd_Teller_takeNumber cy o0 a0 (zI s0) (zL s0) a1 (zI s1) (zL s1) (zA s1 1) (zA s1 2) (zB s1 3)) H) (hD : va_D A (wd_Teller_takeNumber cy o0 a0 (zI s0) (zL s0) a1 (zI s1) (zL s1) (zA s1 1) (zA s1 2) (zB s1 3))) (hS : va_S A s.heap H locs) (hf : Teller_takeNumber_b0 N s0 s1 v1 v2 = some y) (ls : Array Slot) (hl : lv_has ls 3 [(0, .ref o0), (1, .int v1), (2, .int v2)]) : W p l e rm_Teller_takeNumber s m args below meth c H locs 0 0 (MQ below (zQi y.1 (dC, dI) cy (wd_Teller_takeNumber cy o0 a0 (zI y.2) (zL y.2) a1 (zI s1) (zL s1) (zA s1 1) (zA s1 2) (zB s1 3)) A) args s 0 0 A) (F0 m 0 ls []) := by
  obtain ⟨hx, hb, hr, hml, hown, hT, hk, hK⟩ := id C0
  refine lv_aload_n hx hb dX8_takeNumber_0 rfl (lv_at hl 0 rfl) ?_
  refine lv_iconst (v := 3) hx hb dX8_takeNumber_1 (by decide) ?_
  obtain ⟨z1, hc2, hf⟩ := zbd_some hf
  refine zwi (wr := []) (ws' := (wd_Teller_takeNumber cy o0 a0 (zI z1.2) (zL z1.2) a1 (zI s1) (zL s1) (zA s1 1) (zA s1 2) (zB s1 3))) (zV (As := [.int 3]) hx hb hml hown hT hl.1 (c_Teller_take o0 a0 s0 a1 s1 3 hc2) zY_Teller_take tb_550 (zpRw hK hP hD [0, 1, 2, 3, 4] (by decide) rfl 0 8 rfl rfl rfl rfl) rm_ok_Teller_takeNumber_Teller_take rfl rfl (Nat.le_of_ble_eq_true rfl) dX8_takeNumber_2 ⟨Nat.zero_le _, Nat.zero_le _⟩) hP hD hS hA [0, 1, 2, 3, 4] [] [0, 1, 2, 3, 4] rfl rfl (by decide) (by decide) (by decide) rfl rfl (fun H locs hP hD hS => ?_)
  refine lv_if_eq (tgt := 40) hx hb dX8_takeNumber_5 (by decide) (fun hb_3 => ?_) (fun hb_3 => ?_)
  · have hf := zif_t hb_3 hf
    refine lv_iconst (v := 0) hx hb dX8_takeNumber_40 (by decide) ?_
    cases hf
    exact zewz hx hb hr hk (Or.inl rfl) hK hP hD hS dX8_takeNumber_41
  · have hf := zif_f hb_3 hf
    refine lv_aload_n hx hb dX8_takeNumber_8 rfl (lv_at hl 0 rfl) ?_
    refine zget (v := .long (zL z1.2 5)) hx hb hown hT hK hP inX8 rfl smX8 0 rfl 5 (by decide) tb_73 rfl dX8_takeNumber_9 ?_
    refine lv_iload_n hx hb dX8_takeNumber_12 rfl (lv_at hl 1 rfl) ?_
    refine lv_i2l (v := Int32.toInt64 v1) hx hb dX8_takeNumber_13 rfl ?_
    refine W.lcmp hx hb dX8_takeNumber_14 ?_
    refine lv_if_lt (tgt := 28) hx hb dX8_takeNumber_15 (by decide) (fun hb_4 => ?_) (fun hb_4 => ?_)
    · have hf := zif_t hb_4 hf
      exact k_Teller_takeNumber_b28 C0 z1.2 s1  hA hP hD hS hf _ (lv_sub hl [0] rfl)
    · have hf := zif_f hb_4 hf
      refine lv_aload_n hx hb dX8_takeNumber_18 rfl (lv_at hl 0 rfl) ?_
      refine zget (v := .long (zL z1.2 5)) hx hb hown hT hK hP inX8 rfl smX8 0 rfl 5 (by decide) tb_73 rfl dX8_takeNumber_19 ?_
      refine lv_iload_n hx hb dX8_takeNumber_22 rfl (lv_at hl 2 rfl) ?_
      refine lv_i2l (v := Int32.toInt64 v2) hx hb dX8_takeNumber_23 rfl ?_
      refine W.lcmp hx hb dX8_takeNumber_24 ?_
      refine lv_if_le (tgt := 36) hx hb dX8_takeNumber_25 (by decide) (fun hb_5 => ?_) (fun hb_5 => ?_)
      · have hf := zif_t hb_5 hf
        exact k_Teller_takeNumber_b36 C0 z1.2 s1  hA hP hD hS hf _ (lv_sub hl [] rfl)
      · have hf := zif_f hb_5 hf
        exact k_Teller_takeNumber_b28 C0 z1.2 s1  hA hP hD hS hf _ (lv_sub hl [0] rfl)
set_option maxHeartbeats 4000000 in
set_option maxRecDepth 100000 in
theorem c_Teller_takeNumber {l : Launch} {dC : Nat → ClassId} {dI : Nat → Nat → Nat} {cy : Nat → ClassId} {sz : Nat} {N : Nat} (o0 : Nat) (a0 : Nat → Nat) (s0 : zSt) (a1 : Nat → Nat) (s1 : zSt) (v1 : Int32) (v2 : Int32) {y : Int32 × zSt} (hf : Teller_takeNumber N s0 s1 v1 v2 = some y) : Met l yX8_takeNumber (.code yX8_takeNumber cX8_takeNumber 3 (some .boolean) :: zt) rm_Teller_takeNumber (va_Pc [.ref o0, .int v1, .int v2] (zPre (dC, dI) cy (wd_Teller_takeNumber cy o0 a0 (zI s0) (zL s0) a1 (zI s1) (zL s1) (zA s1 1) (zA s1 2) (zB s1 3)) sz)) (zQi y.1 (dC, dI) cy (wd_Teller_takeNumber cy o0 a0 (zI y.2) (zL y.2) a1 (zI s1) (zL s1) (zA s1 1) (zA s1 2) (zB s1 3)) (va_A (wd_Teller_takeNumber cy o0 a0 (zI s0) (zL s0) a1 (zI s1) (zL s1) (zA s1 1) (zA s1 2) (zB s1 3)) sz)) 0 0 (va_A (wd_Teller_takeNumber cy o0 a0 (zI s0) (zL s0) a1 (zI s1) (zL s1) (zA s1 1) (zA s1 2) (zB s1 3)) sz) :=
  zentW (Qw := fun A => (zQi y.1 (dC, dI) cy (wd_Teller_takeNumber cy o0 a0 (zI y.2) (zL y.2) a1 (zI s1) (zL s1) (zA s1 1) (zA s1 2) (zB s1 3)) A)) (by decide +kernel) (Nat.le_of_ble_eq_true rfl) (fun p e s m below meth c A C0 hA hP hD hS ls hl => k_Teller_takeNumber_b0 C0 s0 s1 v1 v2 hA hP hD hS hf ls hl)
def wd_Valley_addBell (cy : Nat → ClassId) (o0 : Nat) (a0 : Nat → Nat) (g0 : Nat → Int32) (h0 : Nat → Int64) (x0_2 : Nat → Int32) (x0_4 : Nat → Int64) (x0_5 : Nat → Int32) (x0_6 : Nat → Int32) (x0_7 : Nat → Int32) (x0_10 : Nat → Int32) : va_W := [(o0, .inr (9, fs_Valley a0 g0 h0)), (a0 2, .inl (cy 0, 3, .inl x0_2)), (a0 4, .inl (cy 1, 11, .inr (.inl x0_4))), (a0 5, .inl (cy 0, 11, .inl x0_5)), (a0 6, .inl (cy 0, 11, .inl x0_6)), (a0 7, .inl (cy 0, 11, .inl x0_7)), (a0 10, .inl (cy 0, 11, .inl x0_10))]
def rm_Valley_addBell : Room := { frames := 1, cells := 0, slots := 0, locals := 40 }
set_option maxHeartbeats 4000000 in
set_option maxRecDepth 100000 in
theorem k_Valley_addBell_b97 {p : Program} {l : Launch} {e : Env} {s : State} {m : MethodId} {args : Array Value} {below : List Frame} {meth : Method} {c : Code} {dC : Nat → ClassId} {dI : Nat → Nat → Nat} {cy : Nat → ClassId} {A : Nat → Prop} {o0 : Nat} {a0 : Nat → Nat} {N : Nat} {y : zSt} (C0 : zCx p s m args meth c cX9_addBell 6 none RX9 (dC, dI) cy) (s0 : zSt) (hA : ∀ q, s.heap.size ≤ q → A q) {H : Heap} {locs : List Loc} (hP : va_P (dC, dI) vwCl (wd_Valley_addBell cy o0 a0 (zI s0) (zL s0) (zA s0 2) (zB s0 4) (zA s0 5) (zA s0 6) (zA s0 7) (zA s0 10)) H) (hD : va_D A (wd_Valley_addBell cy o0 a0 (zI s0) (zL s0) (zA s0 2) (zB s0 4) (zA s0 5) (zA s0 6) (zA s0 7) (zA s0 10))) (hS : va_S A s.heap H locs) (hf : Valley_addBell_b97 N s0 = some y) (ls : Array Slot) (hl : lv_has ls 6 [(0, .ref o0)]) : W p l e rm_Valley_addBell s m args below meth c H locs 0 0 (MQ below (zQv (dC, dI) cy (wd_Valley_addBell cy o0 a0 (zI y) (zL y) (zA y 2) (zB y 4) (zA y 5) (zA y 6) (zA y 7) (zA y 10)) A) args s 0 0 A) (F0 m 97 ls []) := by
  obtain ⟨hx, hb, hr, hml, hown, hT, hk, hK⟩ := id C0
  refine lv_aload_n hx hb dX9_addBell_97 rfl (lv_at hl 0 rfl) ?_
  refine lv_dup hx hb dX9_addBell_98 rfl ?_
  refine zget (v := .int (zI s0 3)) hx hb hown hT hK hP inX9 rfl smX9 0 rfl 3 (by decide) tb_101 rfl dX9_addBell_99 ?_
  refine lv_iconst (v := 1) hx hb dX9_addBell_102 (by decide) ?_
  refine lv_iadd hx hb dX9_addBell_103 ?_
  refine zput (fs' := fs_Valley a0 (upd (zI s0) 3 ((zI s0 3) + 1)) (zL s0)) (ws' := (wd_Valley_addBell cy o0 a0 (upd (zI s0) 3 ((zI s0 3) + 1)) (zL s0) (zA s0 2) (zB s0 4) (zA s0 5) (zA s0 6) (zA s0 7) (zA s0 10))) hx hb hown hT hK hP hD hS inX9 rfl smX9 tyX9_ok nmX9 0 rfl 3 (by decide) tb_101 rfl rfl rfl (Nat.le_of_ble_eq_true rfl) rfl rfl dX9_addBell_104 (fun H locs hP hD hS => ?_)
  cases hf
  exact zewv hx hb hr hk hK hP hD hS dX9_addBell_107
set_option maxHeartbeats 4000000 in
set_option maxRecDepth 100000 in
theorem k_Valley_addBell_b87 {p : Program} {l : Launch} {e : Env} {s : State} {m : MethodId} {args : Array Value} {below : List Frame} {meth : Method} {c : Code} {dC : Nat → ClassId} {dI : Nat → Nat → Nat} {cy : Nat → ClassId} {A : Nat → Prop} {o0 : Nat} {a0 : Nat → Nat} {N : Nat} {y : zSt} (C0 : zCx p s m args meth c cX9_addBell 6 none RX9 (dC, dI) cy) (s0 : zSt) (hA : ∀ q, s.heap.size ≤ q → A q) {H : Heap} {locs : List Loc} (hP : va_P (dC, dI) vwCl (wd_Valley_addBell cy o0 a0 (zI s0) (zL s0) (zA s0 2) (zB s0 4) (zA s0 5) (zA s0 6) (zA s0 7) (zA s0 10)) H) (hD : va_D A (wd_Valley_addBell cy o0 a0 (zI s0) (zL s0) (zA s0 2) (zB s0 4) (zA s0 5) (zA s0 6) (zA s0 7) (zA s0 10))) (hS : va_S A s.heap H locs) (hf : Valley_addBell_b87 N s0 = some y) (ls : Array Slot) (hl : lv_has ls 6 [(0, .ref o0)]) : W p l e rm_Valley_addBell s m args below meth c H locs 0 0 (MQ below (zQv (dC, dI) cy (wd_Valley_addBell cy o0 a0 (zI y) (zL y) (zA y 2) (zB y 4) (zA y 5) (zA y 6) (zA y 7) (zA y 10)) A) args s 0 0 A) (F0 m 87 ls []) := by
  obtain ⟨hx, hb, hr, hml, hown, hT, hk, hK⟩ := id C0
  refine lv_aload_n hx hb dX9_addBell_87 rfl (lv_at hl 0 rfl) ?_
  refine lv_dup hx hb dX9_addBell_88 rfl ?_
  refine zget (v := .int (zI s0 9)) hx hb hown hT hK hP inX9 rfl smX9 0 rfl 9 (by decide) tb_123 rfl dX9_addBell_89 ?_
  refine lv_iconst (v := 1) hx hb dX9_addBell_92 (by decide) ?_
  refine lv_iadd hx hb dX9_addBell_93 ?_
  refine zput (fs' := fs_Valley a0 (upd (zI s0) 9 ((zI s0 9) + 1)) (zL s0)) (ws' := (wd_Valley_addBell cy o0 a0 (upd (zI s0) 9 ((zI s0 9) + 1)) (zL s0) (zA s0 2) (zB s0 4) (zA s0 5) (zA s0 6) (zA s0 7) (zA s0 10))) hx hb hown hT hK hP hD hS inX9 rfl smX9 tyX9_ok nmX9 0 rfl 9 (by decide) tb_123 rfl rfl rfl (Nat.le_of_ble_eq_true rfl) rfl rfl dX9_addBell_94 (fun H locs hP hD hS => ?_)
  exact k_Valley_addBell_b97 C0 (zpI s0 9 ((zI s0 9) + 1))  hA hP hD hS hf _ (lv_sub hl [0] rfl)
set_option maxHeartbeats 4000000 in
set_option maxRecDepth 100000 in
theorem k_Valley_addBell_b0 {p : Program} {l : Launch} {e : Env} {s : State} {m : MethodId} {args : Array Value} {below : List Frame} {meth : Method} {c : Code} {dC : Nat → ClassId} {dI : Nat → Nat → Nat} {cy : Nat → ClassId} {A : Nat → Prop} {o0 : Nat} {a0 : Nat → Nat} {N : Nat} {y : zSt} (C0 : zCx p s m args meth c cX9_addBell 6 none RX9 (dC, dI) cy) (s0 : zSt) (v1 : Int64) (v3 : Int32) (v4 : Int32) (v5 : Int32) (hA : ∀ q, s.heap.size ≤ q → A q) {H : Heap} {locs : List Loc} (hP : va_P (dC, dI) vwCl (wd_Valley_addBell cy o0 a0 (zI s0) (zL s0) (zA s0 2) (zB s0 4) (zA s0 5) (zA s0 6) (zA s0 7) (zA s0 10)) H) (hD : va_D A (wd_Valley_addBell cy o0 a0 (zI s0) (zL s0) (zA s0 2) (zB s0 4) (zA s0 5) (zA s0 6) (zA s0 7) (zA s0 10))) (hS : va_S A s.heap H locs) (hf : Valley_addBell_b0 N s0 v1 v3 v4 v5 = some y) (ls : Array Slot) (hl : lv_has ls 6 [(0, .ref o0), (1, .long v1), (3, .int v3), (4, .int v4), (5, .int v5)]) : W p l e rm_Valley_addBell s m args below meth c H locs 0 0 (MQ below (zQv (dC, dI) cy (wd_Valley_addBell cy o0 a0 (zI y) (zL y) (zA y 2) (zB y 4) (zA y 5) (zA y 6) (zA y 7) (zA y 10)) A) args s 0 0 A) (F0 m 0 ls []) := by
  obtain ⟨hx, hb, hr, hml, hown, hT, hk, hK⟩ := id C0
  refine lv_aload_n hx hb dX9_addBell_0 rfl (lv_at hl 0 rfl) ?_
  refine zget (v := .ref (a0 4)) hx hb hown hT hK hP inX9 rfl smX9 0 rfl 4 (by decide) tb_108 rfl dX9_addBell_1 ?_
  refine lv_aload_n hx hb dX9_addBell_4 rfl (lv_at hl 0 rfl) ?_
  refine zget (v := .int (zI s0 3)) hx hb hown hT hK hP inX9 rfl smX9 0 rfl 3 (by decide) tb_101 rfl dX9_addBell_5 ?_
  refine lv_lload_n hx hb dX9_addBell_8 rfl (lv_at hl 1 rfl) ?_
  obtain ⟨hi1, hf⟩ := zck_some hf
  refine zlst (ws' := (wd_Valley_addBell cy o0 a0 (zI s0) (zL s0) (zA s0 2) (vp_updL (zB s0 4) (Int32.toNatClampNeg (zI s0 3)) v1) (zA s0 5) (zA s0 6) (zA s0 7) (zA s0 10))) hx hb hK hP hD hS 2 1 rfl rfl hi1 rfl dX9_addBell_9 (fun H locs hP hD hS => ?_)
  refine lv_aload_n hx hb dX9_addBell_10 rfl (lv_at hl 0 rfl) ?_
  refine zget (v := .ref (a0 7)) hx hb hown hT hK hP inX9 rfl smX9 0 rfl 7 (by decide) tb_117 rfl dX9_addBell_11 ?_
  refine lv_aload_n hx hb dX9_addBell_14 rfl (lv_at hl 0 rfl) ?_
  refine zget (v := .int (zI s0 3)) hx hb hown hT hK hP inX9 rfl smX9 0 rfl 3 (by decide) tb_101 rfl dX9_addBell_15 ?_
  refine lv_iload_n hx hb dX9_addBell_18 rfl (lv_at hl 2 rfl) ?_
  obtain ⟨hi2, hf⟩ := zck_some hf
  refine zast (ws' := (wd_Valley_addBell cy o0 a0 (zI s0) (zL s0) (zA s0 2) (vp_updL (zB s0 4) (Int32.toNatClampNeg (zI s0 3)) v1) (zA s0 5) (zA s0 6) (upd (zA s0 7) (Int32.toNatClampNeg (zI s0 3)) v3) (zA s0 10))) hx hb hK hP hD hS 5 0 rfl rfl hi2 rfl dX9_addBell_19 (fun H locs hP hD hS => ?_)
  refine lv_aload_n hx hb dX9_addBell_20 rfl (lv_at hl 0 rfl) ?_
  refine zget (v := .ref (a0 5)) hx hb hown hT hK hP inX9 rfl smX9 0 rfl 5 (by decide) tb_110 rfl dX9_addBell_21 ?_
  refine lv_aload_n hx hb dX9_addBell_24 rfl (lv_at hl 0 rfl) ?_
  refine zget (v := .int (zI s0 3)) hx hb hown hT hK hP inX9 rfl smX9 0 rfl 3 (by decide) tb_101 rfl dX9_addBell_25 ?_
  refine lv_iload hx hb dX9_addBell_28 (lv_at hl 3 rfl) ?_
  obtain ⟨hi3, hf⟩ := zck_some hf
  refine zast (ws' := (wd_Valley_addBell cy o0 a0 (zI s0) (zL s0) (zA s0 2) (vp_updL (zB s0 4) (Int32.toNatClampNeg (zI s0 3)) v1) (upd (zA s0 5) (Int32.toNatClampNeg (zI s0 3)) v4) (zA s0 6) (upd (zA s0 7) (Int32.toNatClampNeg (zI s0 3)) v3) (zA s0 10))) hx hb hK hP hD hS 3 0 rfl rfl hi3 rfl dX9_addBell_30 (fun H locs hP hD hS => ?_)
  refine lv_aload_n hx hb dX9_addBell_31 rfl (lv_at hl 0 rfl) ?_
  refine zget (v := .ref (a0 6)) hx hb hown hT hK hP inX9 rfl smX9 0 rfl 6 (by decide) tb_114 rfl dX9_addBell_32 ?_
  refine lv_aload_n hx hb dX9_addBell_35 rfl (lv_at hl 0 rfl) ?_
  refine zget (v := .int (zI s0 3)) hx hb hown hT hK hP inX9 rfl smX9 0 rfl 3 (by decide) tb_101 rfl dX9_addBell_36 ?_
  refine lv_iload hx hb dX9_addBell_39 (lv_at hl 4 rfl) ?_
  obtain ⟨hi4, hf⟩ := zck_some hf
  refine zast (ws' := (wd_Valley_addBell cy o0 a0 (zI s0) (zL s0) (zA s0 2) (vp_updL (zB s0 4) (Int32.toNatClampNeg (zI s0 3)) v1) (upd (zA s0 5) (Int32.toNatClampNeg (zI s0 3)) v4) (upd (zA s0 6) (Int32.toNatClampNeg (zI s0 3)) v5) (upd (zA s0 7) (Int32.toNatClampNeg (zI s0 3)) v3) (zA s0 10))) hx hb hK hP hD hS 4 0 rfl rfl hi4 rfl dX9_addBell_41 (fun H locs hP hD hS => ?_)
  refine lv_aload_n hx hb dX9_addBell_42 rfl (lv_at hl 0 rfl) ?_
  refine zget (v := .ref (a0 10)) hx hb hown hT hK hP inX9 rfl smX9 0 rfl 10 (by decide) tb_126 rfl dX9_addBell_43 ?_
  refine lv_aload_n hx hb dX9_addBell_46 rfl (lv_at hl 0 rfl) ?_
  refine zget (v := .int (zI s0 3)) hx hb hown hT hK hP inX9 rfl smX9 0 rfl 3 (by decide) tb_101 rfl dX9_addBell_47 ?_
  refine lv_iconst (v := 0) hx hb dX9_addBell_50 (by decide) ?_
  obtain ⟨hi5, hf⟩ := zck_some hf
  refine zast (ws' := (wd_Valley_addBell cy o0 a0 (zI s0) (zL s0) (zA s0 2) (vp_updL (zB s0 4) (Int32.toNatClampNeg (zI s0 3)) v1) (upd (zA s0 5) (Int32.toNatClampNeg (zI s0 3)) v4) (upd (zA s0 6) (Int32.toNatClampNeg (zI s0 3)) v5) (upd (zA s0 7) (Int32.toNatClampNeg (zI s0 3)) v3) (upd (zA s0 10) (Int32.toNatClampNeg (zI s0 3)) 0))) hx hb hK hP hD hS 6 0 rfl rfl hi5 rfl dX9_addBell_51 (fun H locs hP hD hS => ?_)
  refine lv_iload_n hx hb dX9_addBell_52 rfl (lv_at hl 2 rfl) ?_
  refine lv_iconst (v := (-1)) hx hb dX9_addBell_53 (by decide) ?_
  refine lv_icmp_eq (tgt := 97) hx hb dX9_addBell_54 (by decide) (fun hb_6 => ?_) (fun hb_6 => ?_)
  · have hf := zif_t hb_6 hf
    exact k_Valley_addBell_b97 C0 (zsA (zsA (zsA (zsA (zsB s0 4 (vp_updL (zB s0 4) (Int32.toNatClampNeg (zI s0 3)) v1)) 7 (upd (zA s0 7) (Int32.toNatClampNeg (zI s0 3)) v3)) 5 (upd (zA s0 5) (Int32.toNatClampNeg (zI s0 3)) v4)) 6 (upd (zA s0 6) (Int32.toNatClampNeg (zI s0 3)) v5)) 10 (upd (zA s0 10) (Int32.toNatClampNeg (zI s0 3)) 0))  hA hP hD hS hf _ (lv_sub hl [0] rfl)
  · have hf := zif_f hb_6 hf
    refine lv_aload_n hx hb dX9_addBell_57 rfl (lv_at hl 0 rfl) ?_
    refine lv_dup hx hb dX9_addBell_58 rfl ?_
    refine zget (v := .int (zI s0 8)) hx hb hown hT hK hP inX9 rfl smX9 0 rfl 8 (by decide) tb_121 rfl dX9_addBell_59 ?_
    refine lv_iconst (v := 1) hx hb dX9_addBell_62 (by decide) ?_
    refine lv_aload_n hx hb dX9_addBell_63 rfl (lv_at hl 0 rfl) ?_
    refine zget (v := .int (zI s0 3)) hx hb hown hT hK hP inX9 rfl smX9 0 rfl 3 (by decide) tb_101 rfl dX9_addBell_64 ?_
    refine lv_ishl hx hb dX9_addBell_67 ?_
    refine lv_ior hx hb dX9_addBell_68 ?_
    refine zput (fs' := fs_Valley a0 (upd (zI s0) 8 ((zI s0 8) ||| ((1 : Int32) <<< ((zI s0 3) &&& 31)))) (zL s0)) (ws' := (wd_Valley_addBell cy o0 a0 (upd (zI s0) 8 ((zI s0 8) ||| ((1 : Int32) <<< ((zI s0 3) &&& 31)))) (zL s0) (zA s0 2) (vp_updL (zB s0 4) (Int32.toNatClampNeg (zI s0 3)) v1) (upd (zA s0 5) (Int32.toNatClampNeg (zI s0 3)) v4) (upd (zA s0 6) (Int32.toNatClampNeg (zI s0 3)) v5) (upd (zA s0 7) (Int32.toNatClampNeg (zI s0 3)) v3) (upd (zA s0 10) (Int32.toNatClampNeg (zI s0 3)) 0))) hx hb hown hT hK hP hD hS inX9 rfl smX9 tyX9_ok nmX9 0 rfl 8 (by decide) tb_121 rfl rfl rfl (Nat.le_of_ble_eq_true rfl) rfl rfl dX9_addBell_69 (fun H locs hP hD hS => ?_)
    refine lv_aload_n hx hb dX9_addBell_72 rfl (lv_at hl 0 rfl) ?_
    refine zget (v := .ref (a0 2)) hx hb hown hT hK hP inX9 rfl smX9 0 rfl 2 (by decide) tb_99 rfl dX9_addBell_73 ?_
    refine lv_iload_n hx hb dX9_addBell_76 rfl (lv_at hl 2 rfl) ?_
    refine lv_dup2_11 hx hb dX9_addBell_77 rfl rfl ?_
    obtain ⟨hi7, hf⟩ := zck_some hf
    refine va_iald hx hb hK.1 hP 1 0 rfl rfl hi7 dX9_addBell_78 ?_
    refine lv_iconst (v := 1) hx hb dX9_addBell_79 (by decide) ?_
    refine lv_aload_n hx hb dX9_addBell_80 rfl (lv_at hl 0 rfl) ?_
    refine zget (v := .int (zI s0 3)) hx hb hown hT hK hP inX9 rfl smX9 0 rfl 3 (by decide) tb_101 rfl dX9_addBell_81 ?_
    refine lv_ishl hx hb dX9_addBell_84 ?_
    refine lv_ior hx hb dX9_addBell_85 ?_
    obtain ⟨hi8, hf⟩ := zck_some hf
    refine zast (ws' := (wd_Valley_addBell cy o0 a0 (upd (zI s0) 8 ((zI s0 8) ||| ((1 : Int32) <<< ((zI s0 3) &&& 31)))) (zL s0) (upd (zA s0 2) (Int32.toNatClampNeg v3) (((zA s0 2) (Int32.toNatClampNeg v3)) ||| ((1 : Int32) <<< ((zI s0 3) &&& 31)))) (vp_updL (zB s0 4) (Int32.toNatClampNeg (zI s0 3)) v1) (upd (zA s0 5) (Int32.toNatClampNeg (zI s0 3)) v4) (upd (zA s0 6) (Int32.toNatClampNeg (zI s0 3)) v5) (upd (zA s0 7) (Int32.toNatClampNeg (zI s0 3)) v3) (upd (zA s0 10) (Int32.toNatClampNeg (zI s0 3)) 0))) hx hb hK hP hD hS 1 0 rfl rfl hi8 rfl dX9_addBell_86 (fun H locs hP hD hS => ?_)
    exact k_Valley_addBell_b87 C0 (zsA (zpI (zsA (zsA (zsA (zsA (zsB s0 4 (vp_updL (zB s0 4) (Int32.toNatClampNeg (zI s0 3)) v1)) 7 (upd (zA s0 7) (Int32.toNatClampNeg (zI s0 3)) v3)) 5 (upd (zA s0 5) (Int32.toNatClampNeg (zI s0 3)) v4)) 6 (upd (zA s0 6) (Int32.toNatClampNeg (zI s0 3)) v5)) 10 (upd (zA s0 10) (Int32.toNatClampNeg (zI s0 3)) 0)) 8 ((zI s0 8) ||| ((1 : Int32) <<< ((zI s0 3) &&& 31)))) 2 (upd (zA s0 2) (Int32.toNatClampNeg v3) (((zA s0 2) (Int32.toNatClampNeg v3)) ||| ((1 : Int32) <<< ((zI s0 3) &&& 31)))))  hA hP hD hS hf _ (lv_sub hl [0] rfl)
set_option maxHeartbeats 4000000 in
set_option maxRecDepth 100000 in
theorem c_Valley_addBell {l : Launch} {dC : Nat → ClassId} {dI : Nat → Nat → Nat} {cy : Nat → ClassId} {sz : Nat} {N : Nat} (o0 : Nat) (a0 : Nat → Nat) (s0 : zSt) (v1 : Int64) (v3 : Int32) (v4 : Int32) (v5 : Int32) {y : zSt} (hf : Valley_addBell N s0 v1 v3 v4 v5 = some y) : Met l yX9_addBell (.code yX9_addBell cX9_addBell 6 none :: zt) rm_Valley_addBell (va_Pc [.ref o0, .long v1, .int v3, .int v4, .int v5] (zPre (dC, dI) cy (wd_Valley_addBell cy o0 a0 (zI s0) (zL s0) (zA s0 2) (zB s0 4) (zA s0 5) (zA s0 6) (zA s0 7) (zA s0 10)) sz)) (zQv (dC, dI) cy (wd_Valley_addBell cy o0 a0 (zI y) (zL y) (zA y 2) (zB y 4) (zA y 5) (zA y 6) (zA y 7) (zA y 10)) (va_A (wd_Valley_addBell cy o0 a0 (zI s0) (zL s0) (zA s0 2) (zB s0 4) (zA s0 5) (zA s0 6) (zA s0 7) (zA s0 10)) sz)) 0 0 (va_A (wd_Valley_addBell cy o0 a0 (zI s0) (zL s0) (zA s0 2) (zB s0 4) (zA s0 5) (zA s0 6) (zA s0 7) (zA s0 10)) sz) :=
  zentW (Qw := fun A => (zQv (dC, dI) cy (wd_Valley_addBell cy o0 a0 (zI y) (zL y) (zA y 2) (zB y 4) (zA y 5) (zA y 6) (zA y 7) (zA y 10)) A)) (by decide +kernel) (Nat.le_of_ble_eq_true rfl) (fun p e s m below meth c A C0 hA hP hD hS ls hl => k_Valley_addBell_b0 C0 s0 v1 v3 v4 v5 hA hP hD hS hf ls hl)
def wd_Teller_tellBell (cy : Nat → ClassId) (o0 : Nat) (a0 : Nat → Nat) (g0 : Nat → Int32) (h0 : Nat → Int64) (o1 : Nat) (a1 : Nat → Nat) (g1 : Nat → Int32) (h1 : Nat → Int64) (x1_2 : Nat → Int32) (x1_4 : Nat → Int64) (x1_5 : Nat → Int32) (x1_6 : Nat → Int32) (x1_7 : Nat → Int32) (x1_10 : Nat → Int32) (a2 : Nat → Nat) (g2 : Nat → Int32) (h2 : Nat → Int64) (x2_1 : Nat → Int32) (x2_2 : Nat → Int32) (x2_3 : Nat → Int64) : va_W := [(o0, .inr (8, fs_Teller a0 g0 h0)), (o1, .inr (9, fs_Valley a1 g1 h1)), (a1 2, .inl (cy 0, 3, .inl x1_2)), (a1 4, .inl (cy 1, 11, .inr (.inl x1_4))), (a1 5, .inl (cy 0, 11, .inl x1_5)), (a1 6, .inl (cy 0, 11, .inl x1_6)), (a1 7, .inl (cy 0, 11, .inl x1_7)), (a1 10, .inl (cy 0, 11, .inl x1_10)), ((a0 2), .inr (6, fs_Reader a2 g2 h2)), (a2 1, .inl (cy 0, 205, .inl x2_1)), (a2 2, .inl (cy 0, 205, .inl x2_2)), (a2 3, .inl (cy 1, 205, .inr (.inl x2_3)))]
def rm_Teller_tellBell : Room := { frames := 4, cells := 0, slots := 0, locals := 105 }
theorem rm_ok_Teller_tellBell_Teller_take : rm_Teller_take.cells = 0 ∧ rm_Teller_take.slots = 0 ∧ rm_Teller_take.frames + 1 ≤ rm_Teller_tellBell.frames ∧ 8 + (3 + 11) + rm_Teller_take.locals ≤ rm_Teller_tellBell.locals := by decide
theorem rm_ok_Teller_tellBell_Teller_takeNumber : rm_Teller_takeNumber.cells = 0 ∧ rm_Teller_takeNumber.slots = 0 ∧ rm_Teller_takeNumber.frames + 1 ≤ rm_Teller_tellBell.frames ∧ 8 + (3 + 11) + rm_Teller_takeNumber.locals ≤ rm_Teller_tellBell.locals := by decide
theorem rm_ok_Teller_tellBell_Teller_takeWord : rm_Teller_takeWord.cells = 0 ∧ rm_Teller_takeWord.slots = 0 ∧ rm_Teller_takeWord.frames + 1 ≤ rm_Teller_tellBell.frames ∧ 8 + (3 + 11) + rm_Teller_takeWord.locals ≤ rm_Teller_tellBell.locals := by decide
theorem rm_ok_Teller_tellBell_Valley_addBell : rm_Valley_addBell.cells = 0 ∧ rm_Valley_addBell.slots = 0 ∧ rm_Valley_addBell.frames + 1 ≤ rm_Teller_tellBell.frames ∧ 8 + (6 + 11) + rm_Valley_addBell.locals ≤ rm_Teller_tellBell.locals := by decide
set_option maxHeartbeats 4000000 in
set_option maxRecDepth 100000 in
theorem k_Teller_tellBell_b0 {p : Program} {l : Launch} {e : Env} {s : State} {m : MethodId} {args : Array Value} {below : List Frame} {meth : Method} {c : Code} {dC : Nat → ClassId} {dI : Nat → Nat → Nat} {cy : Nat → ClassId} {A : Nat → Prop} {o0 : Nat} {a0 : Nat → Nat} {o1 : Nat} {a1 : Nat → Nat} {a2 : Nat → Nat} {N : Nat} {y : Int32 × zSt × zSt} (C0 : zCx p s m args meth c cX8_tellBell 7 (some .boolean) RX8 (dC, dI) cy) (s0 : zSt) (s1 : zSt) (s2 : zSt) (v2 : Int64) (v4 : Int32) (hA : ∀ q, s.heap.size ≤ q → A q) {H : Heap} {locs : List Loc} (hP : va_P (dC, dI) vwCl (wd_Teller_tellBell cy o0 a0 (zI s0) (zL s0) o1 a1 (zI s1) (zL s1) (zA s1 2) (zB s1 4) (zA s1 5) (zA s1 6) (zA s1 7) (zA s1 10) a2 (zI s2) (zL s2) (zA s2 1) (zA s2 2) (zB s2 3)) H) (hD : va_D A (wd_Teller_tellBell cy o0 a0 (zI s0) (zL s0) o1 a1 (zI s1) (zL s1) (zA s1 2) (zB s1 4) (zA s1 5) (zA s1 6) (zA s1 7) (zA s1 10) a2 (zI s2) (zL s2) (zA s2 1) (zA s2 2) (zB s2 3))) (hS : va_S A s.heap H locs) (hf : Teller_tellBell_b0 N s0 s1 s2 v2 v4 = some y) (ls : Array Slot) (hl : lv_has ls 7 [(0, .ref o0), (1, .ref o1), (2, .long v2), (4, .int v4)]) : W p l e rm_Teller_tellBell s m args below meth c H locs 0 0 (MQ below (zQi y.1 (dC, dI) cy (wd_Teller_tellBell cy o0 a0 (zI y.2.1) (zL y.2.1) o1 a1 (zI y.2.2) (zL y.2.2) (zA y.2.2 2) (zB y.2.2 4) (zA y.2.2 5) (zA y.2.2 6) (zA y.2.2 7) (zA y.2.2 10) a2 (zI s2) (zL s2) (zA s2 1) (zA s2 2) (zB s2 3)) A) args s 0 0 A) (F0 m 0 ls []) := by
  obtain ⟨hx, hb, hr, hml, hown, hT, hk, hK⟩ := id C0
  refine lv_aload_n hx hb dX8_tellBell_0 rfl (lv_at hl 0 rfl) ?_
  refine lv_ldc2 (v := 1650814060) hx hb hown (hT _ tb_576) dX8_tellBell_1 ?_
  obtain ⟨z1, hc2, hf⟩ := zbd_some hf
  refine zwi (wr := [(o1, .inr (9, fs_Valley a1 (zI s1) (zL s1))), (a1 2, .inl (cy 0, 3, .inl (zA s1 2))), (a1 4, .inl (cy 1, 11, .inr (.inl (zB s1 4)))), (a1 5, .inl (cy 0, 11, .inl (zA s1 5))), (a1 6, .inl (cy 0, 11, .inl (zA s1 6))), (a1 7, .inl (cy 0, 11, .inl (zA s1 7))), (a1 10, .inl (cy 0, 11, .inl (zA s1 10)))]) (ws' := (wd_Teller_tellBell cy o0 a0 (zI z1.2) (zL z1.2) o1 a1 (zI s1) (zL s1) (zA s1 2) (zB s1 4) (zA s1 5) (zA s1 6) (zA s1 7) (zA s1 10) a2 (zI s2) (zL s2) (zA s2 1) (zA s2 2) (zB s2 3))) (zV (As := [.long 1650814060]) hx hb hml hown hT hl.1 (c_Teller_takeWord o0 a0 s0 a2 s2 1650814060 hc2) zY_Teller_takeWord tb_593 (zpRw hK hP hD [0, 8, 9, 10, 11] (by decide) rfl 0 8 rfl rfl rfl rfl) rm_ok_Teller_tellBell_Teller_takeWord rfl rfl (Nat.le_of_ble_eq_true rfl) dX8_tellBell_4 ⟨Nat.zero_le _, Nat.zero_le _⟩) hP hD hS hA [0, 8, 9, 10, 11] [1, 2, 3, 4, 5, 6, 7] [7, 0, 1, 2, 3, 4, 5, 6, 8, 9, 10, 11] rfl rfl (by decide) (by decide) (by decide) rfl rfl (fun H locs hP hD hS => ?_)
  refine lv_if_eq (tgt := 20) hx hb dX8_tellBell_7 (by decide) (fun hb_3 => ?_) (fun hb_3 => ?_)
  · have hf := zif_t hb_3 hf
    refine lv_iconst (v := 0) hx hb dX8_tellBell_20 (by decide) ?_
    cases hf
    exact zewz hx hb hr hk (Or.inl rfl) hK hP hD hS dX8_tellBell_21
  · have hf := zif_f hb_3 hf
    refine lv_aload_n hx hb dX8_tellBell_10 rfl (lv_at hl 0 rfl) ?_
    refine lv_iconst (v := 0) hx hb dX8_tellBell_11 (by decide) ?_
    refine lv_bipush (v := 11) hx hb dX8_tellBell_12 (by decide) ?_
    obtain ⟨z4, hc5, hf⟩ := zbd_some hf
    refine zwi (wr := [(o1, .inr (9, fs_Valley a1 (zI s1) (zL s1))), (a1 2, .inl (cy 0, 3, .inl (zA s1 2))), (a1 4, .inl (cy 1, 11, .inr (.inl (zB s1 4)))), (a1 5, .inl (cy 0, 11, .inl (zA s1 5))), (a1 6, .inl (cy 0, 11, .inl (zA s1 6))), (a1 7, .inl (cy 0, 11, .inl (zA s1 7))), (a1 10, .inl (cy 0, 11, .inl (zA s1 10)))]) (ws' := (wd_Teller_tellBell cy o0 a0 (zI z4.2) (zL z4.2) o1 a1 (zI s1) (zL s1) (zA s1 2) (zB s1 4) (zA s1 5) (zA s1 6) (zA s1 7) (zA s1 10) a2 (zI s2) (zL s2) (zA s2 1) (zA s2 2) (zB s2 3))) (zV (As := [.int 0, .int 11]) hx hb hml hown hT hl.1 (c_Teller_takeNumber o0 a0 z1.2 a2 s2 0 11 hc5) zY_Teller_takeNumber tb_601 (zpRw hK hP hD [0, 8, 9, 10, 11] (by decide) rfl 0 8 rfl rfl rfl rfl) rm_ok_Teller_tellBell_Teller_takeNumber rfl rfl (Nat.le_of_ble_eq_true rfl) dX8_tellBell_14 ⟨Nat.zero_le _, Nat.zero_le _⟩) hP hD hS hA [0, 8, 9, 10, 11] [1, 2, 3, 4, 5, 6, 7] [7, 0, 1, 2, 3, 4, 5, 6, 8, 9, 10, 11] rfl rfl (by decide) (by decide) (by decide) rfl rfl (fun H locs hP hD hS => ?_)
    refine lv_if_ne (tgt := 22) hx hb dX8_tellBell_17 (by decide) (fun hb_6 => ?_) (fun hb_6 => ?_)
    · have hf := zif_f hb_6 hf
      refine lv_aload_n hx hb dX8_tellBell_22 rfl (lv_at hl 0 rfl) ?_
      refine zget (v := .long (zL z4.2 5)) hx hb hown hT hK hP inX8 rfl smX8 0 rfl 5 (by decide) tb_73 rfl dX8_tellBell_23 ?_
      refine lv_l2i (v := Int64.toInt32 (zL z4.2 5)) hx hb dX8_tellBell_26 rfl ?_
      refine lv_istore (lv' := [(5, .int (Int64.toInt32 (zL z4.2 5))), (0, .ref o0), (1, .ref o1), (2, .long v2), (4, .int v4)]) hx hb dX8_tellBell_27 hl (by decide) rfl (fun ls hl => ?_)
      refine lv_aload_n hx hb dX8_tellBell_29 rfl (lv_at hl 1 rfl) ?_
      refine lv_ldc2 (v := 1819243876) hx hb hown (hT _ tb_577) dX8_tellBell_30 ?_
      obtain ⟨z7, hc8, hf⟩ := zbd_some hf
      refine zwi (wr := [(o1, .inr (9, fs_Valley a1 (zI s1) (zL s1))), (a1 2, .inl (cy 0, 3, .inl (zA s1 2))), (a1 4, .inl (cy 1, 11, .inr (.inl (zB s1 4)))), (a1 5, .inl (cy 0, 11, .inl (zA s1 5))), (a1 6, .inl (cy 0, 11, .inl (zA s1 6))), (a1 7, .inl (cy 0, 11, .inl (zA s1 7))), (a1 10, .inl (cy 0, 11, .inl (zA s1 10)))]) (ws' := (wd_Teller_tellBell cy o0 a0 (zI z7.2) (zL z7.2) o1 a1 (zI s1) (zL s1) (zA s1 2) (zB s1 4) (zA s1 5) (zA s1 6) (zA s1 7) (zA s1 10) a2 (zI s2) (zL s2) (zA s2 1) (zA s2 2) (zB s2 3))) (zV (As := [.long 1819243876]) hx hb hml hown hT hl.1 (c_Teller_takeWord o0 a0 z4.2 a2 s2 1819243876 hc8) zY_Teller_takeWord tb_593 (zpRw hK hP hD [0, 8, 9, 10, 11] (by decide) rfl 0 8 rfl rfl rfl rfl) rm_ok_Teller_tellBell_Teller_takeWord rfl rfl (Nat.le_of_ble_eq_true rfl) dX8_tellBell_33 ⟨Nat.zero_le _, Nat.zero_le _⟩) hP hD hS hA [0, 8, 9, 10, 11] [1, 2, 3, 4, 5, 6, 7] [7, 0, 1, 2, 3, 4, 5, 6, 8, 9, 10, 11] rfl rfl (by decide) (by decide) (by decide) rfl rfl (fun H locs hP hD hS => ?_)
      refine lv_if_eq (tgt := 49) hx hb dX8_tellBell_36 (by decide) (fun hb_9 => ?_) (fun hb_9 => ?_)
      · have hf := zif_t hb_9 hf
        refine lv_iconst (v := 0) hx hb dX8_tellBell_49 (by decide) ?_
        cases hf
        exact zewz hx hb hr hk (Or.inl rfl) hK hP hD hS dX8_tellBell_50
      · have hf := zif_f hb_9 hf
        refine lv_aload_n hx hb dX8_tellBell_39 rfl (lv_at hl 1 rfl) ?_
        refine lv_iconst (v := 1) hx hb dX8_tellBell_40 (by decide) ?_
        refine lv_bipush (v := 99) hx hb dX8_tellBell_41 (by decide) ?_
        obtain ⟨z10, hc11, hf⟩ := zbd_some hf
        refine zwi (wr := [(o1, .inr (9, fs_Valley a1 (zI s1) (zL s1))), (a1 2, .inl (cy 0, 3, .inl (zA s1 2))), (a1 4, .inl (cy 1, 11, .inr (.inl (zB s1 4)))), (a1 5, .inl (cy 0, 11, .inl (zA s1 5))), (a1 6, .inl (cy 0, 11, .inl (zA s1 6))), (a1 7, .inl (cy 0, 11, .inl (zA s1 7))), (a1 10, .inl (cy 0, 11, .inl (zA s1 10)))]) (ws' := (wd_Teller_tellBell cy o0 a0 (zI z10.2) (zL z10.2) o1 a1 (zI s1) (zL s1) (zA s1 2) (zB s1 4) (zA s1 5) (zA s1 6) (zA s1 7) (zA s1 10) a2 (zI s2) (zL s2) (zA s2 1) (zA s2 2) (zB s2 3))) (zV (As := [.int 1, .int 99]) hx hb hml hown hT hl.1 (c_Teller_takeNumber o0 a0 z7.2 a2 s2 1 99 hc11) zY_Teller_takeNumber tb_601 (zpRw hK hP hD [0, 8, 9, 10, 11] (by decide) rfl 0 8 rfl rfl rfl rfl) rm_ok_Teller_tellBell_Teller_takeNumber rfl rfl (Nat.le_of_ble_eq_true rfl) dX8_tellBell_43 ⟨Nat.zero_le _, Nat.zero_le _⟩) hP hD hS hA [0, 8, 9, 10, 11] [1, 2, 3, 4, 5, 6, 7] [7, 0, 1, 2, 3, 4, 5, 6, 8, 9, 10, 11] rfl rfl (by decide) (by decide) (by decide) rfl rfl (fun H locs hP hD hS => ?_)
        refine lv_if_ne (tgt := 51) hx hb dX8_tellBell_46 (by decide) (fun hb_12 => ?_) (fun hb_12 => ?_)
        · have hf := zif_f hb_12 hf
          refine lv_aload_n hx hb dX8_tellBell_51 rfl (lv_at hl 1 rfl) ?_
          refine zget (v := .long (zL z10.2 5)) hx hb hown hT hK hP inX8 rfl smX8 0 rfl 5 (by decide) tb_73 rfl dX8_tellBell_52 ?_
          refine lv_l2i (v := Int64.toInt32 (zL z10.2 5)) hx hb dX8_tellBell_55 rfl ?_
          refine lv_istore (lv' := [(6, .int (Int64.toInt32 (zL z10.2 5))), (5, .int (Int64.toInt32 (zL z4.2 5))), (0, .ref o0), (1, .ref o1), (2, .long v2), (4, .int v4)]) hx hb dX8_tellBell_56 hl (by decide) rfl (fun ls hl => ?_)
          refine lv_aload_n hx hb dX8_tellBell_58 rfl (lv_at hl 2 rfl) ?_
          refine lv_iconst (v := 4) hx hb dX8_tellBell_59 (by decide) ?_
          obtain ⟨z13, hc14, hf⟩ := zbd_some hf
          refine zwi (wr := [(o1, .inr (9, fs_Valley a1 (zI s1) (zL s1))), (a1 2, .inl (cy 0, 3, .inl (zA s1 2))), (a1 4, .inl (cy 1, 11, .inr (.inl (zB s1 4)))), (a1 5, .inl (cy 0, 11, .inl (zA s1 5))), (a1 6, .inl (cy 0, 11, .inl (zA s1 6))), (a1 7, .inl (cy 0, 11, .inl (zA s1 7))), (a1 10, .inl (cy 0, 11, .inl (zA s1 10)))]) (ws' := (wd_Teller_tellBell cy o0 a0 (zI z13.2) (zL z13.2) o1 a1 (zI s1) (zL s1) (zA s1 2) (zB s1 4) (zA s1 5) (zA s1 6) (zA s1 7) (zA s1 10) a2 (zI s2) (zL s2) (zA s2 1) (zA s2 2) (zB s2 3))) (zV (As := [.int 4]) hx hb hml hown hT hl.1 (c_Teller_take o0 a0 z10.2 a2 s2 4 hc14) zY_Teller_take tb_550 (zpRw hK hP hD [0, 8, 9, 10, 11] (by decide) rfl 0 8 rfl rfl rfl rfl) rm_ok_Teller_tellBell_Teller_take rfl rfl (Nat.le_of_ble_eq_true rfl) dX8_tellBell_60 ⟨Nat.zero_le _, Nat.zero_le _⟩) hP hD hS hA [0, 8, 9, 10, 11] [1, 2, 3, 4, 5, 6, 7] [7, 0, 1, 2, 3, 4, 5, 6, 8, 9, 10, 11] rfl rfl (by decide) (by decide) (by decide) rfl rfl (fun H locs hP hD hS => ?_)
          refine lv_if_ne (tgt := 68) hx hb dX8_tellBell_63 (by decide) (fun hb_15 => ?_) (fun hb_15 => ?_)
          · have hf := zif_f hb_15 hf
            refine lv_aload_n hx hb dX8_tellBell_68 rfl (lv_at hl 3 rfl) ?_
            refine lv_lload_n hx hb dX8_tellBell_69 rfl (lv_at hl 4 rfl) ?_
            refine lv_iload hx hb dX8_tellBell_70 (lv_at hl 5 rfl) ?_
            refine lv_iload hx hb dX8_tellBell_72 (lv_at hl 1 rfl) ?_
            refine lv_iload hx hb dX8_tellBell_74 (lv_at hl 0 rfl) ?_
            obtain ⟨z16, hc17, hf⟩ := zbd_some hf
            refine zwv (wr := [(o0, .inr (8, fs_Teller a0 (zI z13.2) (zL z13.2))), ((a0 2), .inr (6, fs_Reader a2 (zI s2) (zL s2))), (a2 1, .inl (cy 0, 205, .inl (zA s2 1))), (a2 2, .inl (cy 0, 205, .inl (zA s2 2))), (a2 3, .inl (cy 1, 205, .inr (.inl (zB s2 3))))]) (ws' := (wd_Teller_tellBell cy o0 a0 (zI z13.2) (zL z13.2) o1 a1 (zI z16) (zL z16) (zA z16 2) (zB z16 4) (zA z16 5) (zA z16 6) (zA z16 7) (zA z16 10) a2 (zI s2) (zL s2) (zA s2 1) (zA s2 2) (zB s2 3))) (zV (As := [.long v2, .int v4, .int (Int64.toInt32 (zL z4.2 5)), .int (Int64.toInt32 (zL z10.2 5))]) hx hb hml hown hT hl.1 (c_Valley_addBell o1 a1 s1 v2 v4 (Int64.toInt32 (zL z4.2 5)) (Int64.toInt32 (zL z10.2 5)) hc17) zY_Valley_addBell tb_605 (zpRw hK hP hD [1, 2, 3, 4, 5, 6, 7] (by decide) rfl 0 9 rfl rfl rfl rfl) rm_ok_Teller_tellBell_Valley_addBell rfl rfl (Nat.le_of_ble_eq_true rfl) dX8_tellBell_76 ⟨Nat.zero_le _, Nat.zero_le _⟩) hP hD hS hA [1, 2, 3, 4, 5, 6, 7] [0, 8, 9, 10, 11] [0, 5, 6, 7, 8, 9, 10, 11, 1, 2, 3, 4] rfl rfl (by decide) (by decide) (by decide) rfl rfl (fun H locs hP hD hS => ?_)
            refine lv_iconst (v := 1) hx hb dX8_tellBell_79 (by decide) ?_
            cases hf
            exact zewz hx hb hr hk (Or.inr rfl) hK hP hD hS dX8_tellBell_80
          · have hf := zif_t hb_15 hf
            refine lv_iconst (v := 0) hx hb dX8_tellBell_66 (by decide) ?_
            cases hf
            exact zewz hx hb hr hk (Or.inl rfl) hK hP hD hS dX8_tellBell_67
        · have hf := zif_t hb_12 hf
          refine lv_iconst (v := 0) hx hb dX8_tellBell_49 (by decide) ?_
          cases hf
          exact zewz hx hb hr hk (Or.inl rfl) hK hP hD hS dX8_tellBell_50
    · have hf := zif_t hb_6 hf
      refine lv_iconst (v := 0) hx hb dX8_tellBell_20 (by decide) ?_
      cases hf
      exact zewz hx hb hr hk (Or.inl rfl) hK hP hD hS dX8_tellBell_21
set_option maxHeartbeats 4000000 in
set_option maxRecDepth 100000 in
theorem c_Teller_tellBell {l : Launch} {dC : Nat → ClassId} {dI : Nat → Nat → Nat} {cy : Nat → ClassId} {sz : Nat} {N : Nat} (o0 : Nat) (a0 : Nat → Nat) (s0 : zSt) (o1 : Nat) (a1 : Nat → Nat) (s1 : zSt) (a2 : Nat → Nat) (s2 : zSt) (v2 : Int64) (v4 : Int32) {y : Int32 × zSt × zSt} (hf : Teller_tellBell N s0 s1 s2 v2 v4 = some y) : Met l yX8_tellBell (.code yX8_tellBell cX8_tellBell 7 (some .boolean) :: zt) rm_Teller_tellBell (va_Pc [.ref o0, .ref o1, .long v2, .int v4] (zPre (dC, dI) cy (wd_Teller_tellBell cy o0 a0 (zI s0) (zL s0) o1 a1 (zI s1) (zL s1) (zA s1 2) (zB s1 4) (zA s1 5) (zA s1 6) (zA s1 7) (zA s1 10) a2 (zI s2) (zL s2) (zA s2 1) (zA s2 2) (zB s2 3)) sz)) (zQi y.1 (dC, dI) cy (wd_Teller_tellBell cy o0 a0 (zI y.2.1) (zL y.2.1) o1 a1 (zI y.2.2) (zL y.2.2) (zA y.2.2 2) (zB y.2.2 4) (zA y.2.2 5) (zA y.2.2 6) (zA y.2.2 7) (zA y.2.2 10) a2 (zI s2) (zL s2) (zA s2 1) (zA s2 2) (zB s2 3)) (va_A (wd_Teller_tellBell cy o0 a0 (zI s0) (zL s0) o1 a1 (zI s1) (zL s1) (zA s1 2) (zB s1 4) (zA s1 5) (zA s1 6) (zA s1 7) (zA s1 10) a2 (zI s2) (zL s2) (zA s2 1) (zA s2 2) (zB s2 3)) sz)) 0 0 (va_A (wd_Teller_tellBell cy o0 a0 (zI s0) (zL s0) o1 a1 (zI s1) (zL s1) (zA s1 2) (zB s1 4) (zA s1 5) (zA s1 6) (zA s1 7) (zA s1 10) a2 (zI s2) (zL s2) (zA s2 1) (zA s2 2) (zB s2 3)) sz) :=
  zentW (Qw := fun A => (zQi y.1 (dC, dI) cy (wd_Teller_tellBell cy o0 a0 (zI y.2.1) (zL y.2.1) o1 a1 (zI y.2.2) (zL y.2.2) (zA y.2.2 2) (zB y.2.2 4) (zA y.2.2 5) (zA y.2.2 6) (zA y.2.2 7) (zA y.2.2 10) a2 (zI s2) (zL s2) (zA s2 1) (zA s2 2) (zB s2 3)) A)) (by decide +kernel) (Nat.le_of_ble_eq_true rfl) (fun p e s m below meth c A C0 hA hP hD hS ls hl => k_Teller_tellBell_b0 C0 s0 s1 s2 v2 v4 hA hP hD hS hf ls hl)
def wd_Teller_tellBeast (cy : Nat → ClassId) (o0 : Nat) (a0 : Nat → Nat) (g0 : Nat → Int32) (h0 : Nat → Int64) (o1 : Nat) (a1 : Nat → Nat) (g1 : Nat → Int32) (h1 : Nat → Int64) (x1_1 : Nat → Int64) (x1_2 : Nat → Int32) (x1_4 : Nat → Int64) (x1_5 : Nat → Int32) (x1_6 : Nat → Int32) (x1_7 : Nat → Int32) (x1_10 : Nat → Int32) (a2 : Nat → Nat) (g2 : Nat → Int32) (h2 : Nat → Int64) (x2_1 : Nat → Int32) (x2_2 : Nat → Int32) (x2_3 : Nat → Int64) : va_W := [(o0, .inr (8, fs_Teller a0 g0 h0)), (o1, .inr (9, fs_Valley a1 g1 h1)), (a1 1, .inl (cy 1, 3, .inr (.inl x1_1))), (a1 2, .inl (cy 0, 3, .inl x1_2)), (a1 4, .inl (cy 1, 11, .inr (.inl x1_4))), (a1 5, .inl (cy 0, 11, .inl x1_5)), (a1 6, .inl (cy 0, 11, .inl x1_6)), (a1 7, .inl (cy 0, 11, .inl x1_7)), (a1 10, .inl (cy 0, 11, .inl x1_10)), ((a0 2), .inr (6, fs_Reader a2 g2 h2)), (a2 1, .inl (cy 0, 205, .inl x2_1)), (a2 2, .inl (cy 0, 205, .inl x2_2)), (a2 3, .inl (cy 1, 205, .inr (.inl x2_3)))]
def rm_Teller_tellBeast : Room := { frames := 5, cells := 0, slots := 0, locals := 131 }
theorem rm_ok_Teller_tellBeast_Teller_find : rm_Teller_find.cells = 0 ∧ rm_Teller_find.slots = 0 ∧ rm_Teller_find.frames + 1 ≤ rm_Teller_tellBeast.frames ∧ 8 + (5 + 11) + rm_Teller_find.locals ≤ rm_Teller_tellBeast.locals := by decide
theorem rm_ok_Teller_tellBeast_Teller_refuse : rm_Teller_refuse.cells = 0 ∧ rm_Teller_refuse.slots = 0 ∧ rm_Teller_refuse.frames + 1 ≤ rm_Teller_tellBeast.frames ∧ 8 + (2 + 11) + rm_Teller_refuse.locals ≤ rm_Teller_tellBeast.locals := by decide
theorem rm_ok_Teller_tellBeast_Teller_takeName : rm_Teller_takeName.cells = 0 ∧ rm_Teller_takeName.slots = 0 ∧ rm_Teller_takeName.frames + 1 ≤ rm_Teller_tellBeast.frames ∧ 8 + (1 + 11) + rm_Teller_takeName.locals ≤ rm_Teller_tellBeast.locals := by decide
theorem rm_ok_Teller_tellBeast_Teller_takeNewName : rm_Teller_takeNewName.cells = 0 ∧ rm_Teller_takeNewName.slots = 0 ∧ rm_Teller_takeNewName.frames + 1 ≤ rm_Teller_tellBeast.frames ∧ 8 + (3 + 11) + rm_Teller_takeNewName.locals ≤ rm_Teller_tellBeast.locals := by decide
theorem rm_ok_Teller_tellBeast_Teller_takeWord : rm_Teller_takeWord.cells = 0 ∧ rm_Teller_takeWord.slots = 0 ∧ rm_Teller_takeWord.frames + 1 ≤ rm_Teller_tellBeast.frames ∧ 8 + (3 + 11) + rm_Teller_takeWord.locals ≤ rm_Teller_tellBeast.locals := by decide
theorem rm_ok_Teller_tellBeast_Teller_tellBell : rm_Teller_tellBell.cells = 0 ∧ rm_Teller_tellBell.slots = 0 ∧ rm_Teller_tellBell.frames + 1 ≤ rm_Teller_tellBeast.frames ∧ 8 + (7 + 11) + rm_Teller_tellBell.locals ≤ rm_Teller_tellBeast.locals := by decide
set_option maxHeartbeats 4000000 in
set_option maxRecDepth 100000 in
theorem k_Teller_tellBeast_b0 {p : Program} {l : Launch} {e : Env} {s : State} {m : MethodId} {args : Array Value} {below : List Frame} {meth : Method} {c : Code} {dC : Nat → ClassId} {dI : Nat → Nat → Nat} {cy : Nat → ClassId} {A : Nat → Prop} {o0 : Nat} {a0 : Nat → Nat} {o1 : Nat} {a1 : Nat → Nat} {a2 : Nat → Nat} {N : Nat} {y : Int32 × zSt × zSt} (C0 : zCx p s m args meth c cX8_tellBeast 5 (some .boolean) RX8 (dC, dI) cy) (s0 : zSt) (s1 : zSt) (s2 : zSt) (hA : ∀ q, s.heap.size ≤ q → A q) {H : Heap} {locs : List Loc} (hP : va_P (dC, dI) vwCl (wd_Teller_tellBeast cy o0 a0 (zI s0) (zL s0) o1 a1 (zI s1) (zL s1) (zB s1 1) (zA s1 2) (zB s1 4) (zA s1 5) (zA s1 6) (zA s1 7) (zA s1 10) a2 (zI s2) (zL s2) (zA s2 1) (zA s2 2) (zB s2 3)) H) (hD : va_D A (wd_Teller_tellBeast cy o0 a0 (zI s0) (zL s0) o1 a1 (zI s1) (zL s1) (zB s1 1) (zA s1 2) (zB s1 4) (zA s1 5) (zA s1 6) (zA s1 7) (zA s1 10) a2 (zI s2) (zL s2) (zA s2 1) (zA s2 2) (zB s2 3))) (hS : va_S A s.heap H locs) (hf : Teller_tellBeast_b0 N s0 s1 s2 = some y) (ls : Array Slot) (hl : lv_has ls 5 [(0, .ref o0), (1, .ref o1)]) : W p l e rm_Teller_tellBeast s m args below meth c H locs 0 0 (MQ below (zQi y.1 (dC, dI) cy (wd_Teller_tellBeast cy o0 a0 (zI y.2.1) (zL y.2.1) o1 a1 (zI y.2.2) (zL y.2.2) (zB y.2.2 1) (zA y.2.2 2) (zB y.2.2 4) (zA y.2.2 5) (zA y.2.2 6) (zA y.2.2 7) (zA y.2.2 10) a2 (zI s2) (zL s2) (zA s2 1) (zA s2 2) (zB s2 3)) A) args s 0 0 A) (F0 m 0 ls []) := by
  obtain ⟨hx, hb, hr, hml, hown, hT, hk, hK⟩ := id C0
  refine lv_aload_n hx hb dX8_tellBeast_0 rfl (lv_at hl 1 rfl) ?_
  refine zget (v := .int (zI s1 9)) hx hb hown hT hK hP inX9 rfl smX9 1 rfl 9 (by decide) tb_124 rfl dX8_tellBeast_1 ?_
  refine lv_bipush (v := 9) hx hb dX8_tellBeast_4 (by decide) ?_
  refine lv_icmp_lt (tgt := 15) hx hb dX8_tellBeast_6 (by decide) (fun hb_1 => ?_) (fun hb_1 => ?_)
  · have hf := zif_t hb_1 hf
    refine lv_aload_n hx hb dX8_tellBeast_15 rfl (lv_at hl 0 rfl) ?_
    refine lv_aload_n hx hb dX8_tellBeast_16 rfl (lv_at hl 1 rfl) ?_
    refine zget (v := .ref (a1 4)) hx hb hown hT hK hP inX9 rfl smX9 1 rfl 4 (by decide) tb_109 rfl dX8_tellBeast_17 ?_
    refine lv_aload_n hx hb dX8_tellBeast_20 rfl (lv_at hl 1 rfl) ?_
    refine zget (v := .int (zI s1 3)) hx hb hown hT hK hP inX9 rfl smX9 1 rfl 3 (by decide) tb_106 rfl dX8_tellBeast_21 ?_
    obtain ⟨z2, hc3, hf⟩ := zbd_some hf
    refine zwi (wr := [(o1, .inr (9, fs_Valley a1 (zI s1) (zL s1))), (a1 1, .inl (cy 1, 3, .inr (.inl (zB s1 1)))), (a1 2, .inl (cy 0, 3, .inl (zA s1 2))), (a1 5, .inl (cy 0, 11, .inl (zA s1 5))), (a1 6, .inl (cy 0, 11, .inl (zA s1 6))), (a1 7, .inl (cy 0, 11, .inl (zA s1 7))), (a1 10, .inl (cy 0, 11, .inl (zA s1 10)))]) (ws' := (wd_Teller_tellBeast cy o0 a0 (zI z2.2) (zL z2.2) o1 a1 (zI s1) (zL s1) (zB s1 1) (zA s1 2) (zB s1 4) (zA s1 5) (zA s1 6) (zA s1 7) (zA s1 10) a2 (zI s2) (zL s2) (zA s2 1) (zA s2 2) (zB s2 3))) (zV (As := [.ref (a1 4), .int (zI s1 3)]) hx hb hml hown hT hl.1 (c_Teller_takeNewName o0 a0 s0 (a1 4) 11 (zB s1 4) a2 s2 (zI s1 3) hc3) zY_Teller_takeNewName tb_563 (zpRw hK hP hD [0, 4, 9, 10, 11, 12] (by decide) rfl 0 8 rfl rfl rfl rfl) rm_ok_Teller_tellBeast_Teller_takeNewName rfl rfl (Nat.le_of_ble_eq_true rfl) dX8_tellBeast_24 ⟨Nat.zero_le _, Nat.zero_le _⟩) hP hD hS hA [0, 4, 9, 10, 11, 12] [1, 2, 3, 5, 6, 7, 8] [7, 0, 1, 2, 8, 3, 4, 5, 6, 9, 10, 11, 12] rfl rfl (by decide) (by decide) (by decide) rfl rfl (fun H locs hP hD hS => ?_)
    refine lv_if_ne (tgt := 32) hx hb dX8_tellBeast_27 (by decide) (fun hb_4 => ?_) (fun hb_4 => ?_)
    · have hf := zif_f hb_4 hf
      refine lv_aload_n hx hb dX8_tellBeast_32 rfl (lv_at hl 0 rfl) ?_
      refine zget (v := .long (zL z2.2 5)) hx hb hown hT hK hP inX8 rfl smX8 0 rfl 5 (by decide) tb_73 rfl dX8_tellBeast_33 ?_
      refine lv_lstore_n (lv' := [(2, .long (zL z2.2 5)), (0, .ref o0), (1, .ref o1)]) hx hb dX8_tellBeast_36 rfl hl (by decide) rfl (fun ls hl => ?_)
      refine lv_aload_n hx hb dX8_tellBeast_37 rfl (lv_at hl 1 rfl) ?_
      refine lv_ldc2 (v := 28518) hx hb hown (hT _ tb_575) dX8_tellBeast_38 ?_
      obtain ⟨z5, hc6, hf⟩ := zbd_some hf
      refine zwi (wr := [(o1, .inr (9, fs_Valley a1 (zI s1) (zL s1))), (a1 1, .inl (cy 1, 3, .inr (.inl (zB s1 1)))), (a1 2, .inl (cy 0, 3, .inl (zA s1 2))), (a1 4, .inl (cy 1, 11, .inr (.inl (zB s1 4)))), (a1 5, .inl (cy 0, 11, .inl (zA s1 5))), (a1 6, .inl (cy 0, 11, .inl (zA s1 6))), (a1 7, .inl (cy 0, 11, .inl (zA s1 7))), (a1 10, .inl (cy 0, 11, .inl (zA s1 10)))]) (ws' := (wd_Teller_tellBeast cy o0 a0 (zI z5.2) (zL z5.2) o1 a1 (zI s1) (zL s1) (zB s1 1) (zA s1 2) (zB s1 4) (zA s1 5) (zA s1 6) (zA s1 7) (zA s1 10) a2 (zI s2) (zL s2) (zA s2 1) (zA s2 2) (zB s2 3))) (zV (As := [.long 28518]) hx hb hml hown hT hl.1 (c_Teller_takeWord o0 a0 z2.2 a2 s2 28518 hc6) zY_Teller_takeWord tb_593 (zpRw hK hP hD [0, 9, 10, 11, 12] (by decide) rfl 0 8 rfl rfl rfl rfl) rm_ok_Teller_tellBeast_Teller_takeWord rfl rfl (Nat.le_of_ble_eq_true rfl) dX8_tellBeast_41 ⟨Nat.zero_le _, Nat.zero_le _⟩) hP hD hS hA [0, 9, 10, 11, 12] [1, 2, 3, 4, 5, 6, 7, 8] [8, 0, 1, 2, 3, 4, 5, 6, 7, 9, 10, 11, 12] rfl rfl (by decide) (by decide) (by decide) rfl rfl (fun H locs hP hD hS => ?_)
      refine lv_if_eq (tgt := 54) hx hb dX8_tellBeast_44 (by decide) (fun hb_7 => ?_) (fun hb_7 => ?_)
      · have hf := zif_t hb_7 hf
        refine lv_iconst (v := 0) hx hb dX8_tellBeast_54 (by decide) ?_
        cases hf
        exact zewz hx hb hr hk (Or.inl rfl) hK hP hD hS dX8_tellBeast_55
      · have hf := zif_f hb_7 hf
        refine lv_aload_n hx hb dX8_tellBeast_47 rfl (lv_at hl 1 rfl) ?_
        obtain ⟨z8, hc9, hf⟩ := zbd_some hf
        refine zwi (wr := [(o1, .inr (9, fs_Valley a1 (zI s1) (zL s1))), (a1 1, .inl (cy 1, 3, .inr (.inl (zB s1 1)))), (a1 2, .inl (cy 0, 3, .inl (zA s1 2))), (a1 4, .inl (cy 1, 11, .inr (.inl (zB s1 4)))), (a1 5, .inl (cy 0, 11, .inl (zA s1 5))), (a1 6, .inl (cy 0, 11, .inl (zA s1 6))), (a1 7, .inl (cy 0, 11, .inl (zA s1 7))), (a1 10, .inl (cy 0, 11, .inl (zA s1 10)))]) (ws' := (wd_Teller_tellBeast cy o0 a0 (zI z8.2) (zL z8.2) o1 a1 (zI s1) (zL s1) (zB s1 1) (zA s1 2) (zB s1 4) (zA s1 5) (zA s1 6) (zA s1 7) (zA s1 10) a2 (zI s2) (zL s2) (zA s2 1) (zA s2 2) (zB s2 3))) (zV (As := []) hx hb hml hown hT hl.1 (c_Teller_takeName o0 a0 z5.2 a2 s2 hc9) zY_Teller_takeName tb_567 (zpRw hK hP hD [0, 9, 10, 11, 12] (by decide) rfl 0 8 rfl rfl rfl rfl) rm_ok_Teller_tellBeast_Teller_takeName rfl rfl (Nat.le_of_ble_eq_true rfl) dX8_tellBeast_48 ⟨Nat.zero_le _, Nat.zero_le _⟩) hP hD hS hA [0, 9, 10, 11, 12] [1, 2, 3, 4, 5, 6, 7, 8] [8, 0, 1, 2, 3, 4, 5, 6, 7, 9, 10, 11, 12] rfl rfl (by decide) (by decide) (by decide) rfl rfl (fun H locs hP hD hS => ?_)
        refine lv_if_ne (tgt := 56) hx hb dX8_tellBeast_51 (by decide) (fun hb_10 => ?_) (fun hb_10 => ?_)
        · have hf := zif_f hb_10 hf
          refine lv_aload_n hx hb dX8_tellBeast_56 rfl (lv_at hl 1 rfl) ?_
          refine zget (v := .long (zL z8.2 5)) hx hb hown hT hK hP inX8 rfl smX8 0 rfl 5 (by decide) tb_73 rfl dX8_tellBeast_57 ?_
          refine lv_aload_n hx hb dX8_tellBeast_60 rfl (lv_at hl 2 rfl) ?_
          refine zget (v := .ref (a1 1)) hx hb hown hT hK hP inX9 rfl smX9 1 rfl 1 (by decide) tb_98 rfl dX8_tellBeast_61 ?_
          refine lv_aload_n hx hb dX8_tellBeast_64 rfl (lv_at hl 2 rfl) ?_
          refine zget (v := .int (zI s1 0)) hx hb hown hT hK hP inX9 rfl smX9 1 rfl 0 (by decide) tb_94 rfl dX8_tellBeast_65 ?_
          obtain ⟨z11, hc12, hf⟩ := zbd_some hf
          refine zri (zS (As := [.long (zL z8.2 5), .ref (a1 1), .int (zI s1 0)]) hx hb hml hown hT hl.1 (c_Teller_find (a1 1) 3 (zB s1 1) (zL z8.2 5) (zI s1 0) hc12) zY_Teller_find tb_582 (zpS hK hP [2] rfl) rm_ok_Teller_tellBeast_Teller_find rfl rfl (Nat.le_of_ble_eq_true rfl) dX8_tellBeast_68 ⟨Nat.zero_le _, Nat.zero_le _⟩) ?_
          refine lv_istore (lv' := [(4, .int z11), (2, .long (zL z2.2 5)), (0, .ref o0), (1, .ref o1)]) hx hb dX8_tellBeast_71 hl (by decide) rfl (fun ls hl => ?_)
          refine lv_iload hx hb dX8_tellBeast_73 (lv_at hl 0 rfl) ?_
          refine lv_iconst (v := (-1)) hx hb dX8_tellBeast_75 (by decide) ?_
          refine lv_icmp_ne (tgt := 85) hx hb dX8_tellBeast_76 (by decide) (fun hb_13 => ?_) (fun hb_13 => ?_)
          · have hf := zif_f hb_13 hf
            refine lv_aload_n hx hb dX8_tellBeast_85 rfl (lv_at hl 2 rfl) ?_
            refine lv_aload_n hx hb dX8_tellBeast_86 rfl (lv_at hl 3 rfl) ?_
            refine lv_lload_n hx hb dX8_tellBeast_87 rfl (lv_at hl 1 rfl) ?_
            refine lv_iload hx hb dX8_tellBeast_88 (lv_at hl 0 rfl) ?_
            obtain ⟨z14, hc15, hf⟩ := zbd_some hf
            refine zwi (wr := [(a1 1, .inl (cy 1, 3, .inr (.inl (zB s1 1))))]) (ws' := (wd_Teller_tellBeast cy o0 a0 (zI z14.2.1) (zL z14.2.1) o1 a1 (zI z14.2.2) (zL z14.2.2) (zB s1 1) (zA z14.2.2 2) (zB z14.2.2 4) (zA z14.2.2 5) (zA z14.2.2 6) (zA z14.2.2 7) (zA z14.2.2 10) a2 (zI s2) (zL s2) (zA s2 1) (zA s2 2) (zB s2 3))) (zV (As := [.ref o1, .long (zL z2.2 5), .int z11]) hx hb hml hown hT hl.1 (c_Teller_tellBell o0 a0 z8.2 o1 a1 s1 a2 s2 (zL z2.2 5) z11 hc15) zY_Teller_tellBell tb_597 (zpRw hK hP hD [0, 1, 3, 4, 5, 6, 7, 8, 9, 10, 11, 12] (by decide) rfl 0 8 rfl rfl rfl rfl) rm_ok_Teller_tellBeast_Teller_tellBell rfl rfl (Nat.le_of_ble_eq_true rfl) dX8_tellBeast_90 ⟨Nat.zero_le _, Nat.zero_le _⟩) hP hD hS hA [0, 1, 3, 4, 5, 6, 7, 8, 9, 10, 11, 12] [2] [1, 2, 0, 3, 4, 5, 6, 7, 8, 9, 10, 11, 12] rfl rfl (by decide) (by decide) (by decide) rfl rfl (fun H locs hP hD hS => ?_)
            obtain ⟨hq16, hf⟩ := zcb_some hf
            cases hf
            exact zewz hx hb hr hk hq16 hK hP hD hS dX8_tellBeast_93
          · have hf := zif_t hb_13 hf
            refine lv_aload_n hx hb dX8_tellBeast_79 rfl (lv_at hl 2 rfl) ?_
            refine lv_iconst (v := 5) hx hb dX8_tellBeast_80 (by decide) ?_
            obtain ⟨z17, hc18, hf⟩ := zbd_some hf
            refine zwi (wr := [(o1, .inr (9, fs_Valley a1 (zI s1) (zL s1))), (a1 1, .inl (cy 1, 3, .inr (.inl (zB s1 1)))), (a1 2, .inl (cy 0, 3, .inl (zA s1 2))), (a1 4, .inl (cy 1, 11, .inr (.inl (zB s1 4)))), (a1 5, .inl (cy 0, 11, .inl (zA s1 5))), (a1 6, .inl (cy 0, 11, .inl (zA s1 6))), (a1 7, .inl (cy 0, 11, .inl (zA s1 7))), (a1 10, .inl (cy 0, 11, .inl (zA s1 10))), ((a0 2), .inr (6, fs_Reader a2 (zI s2) (zL s2))), (a2 1, .inl (cy 0, 205, .inl (zA s2 1))), (a2 2, .inl (cy 0, 205, .inl (zA s2 2))), (a2 3, .inl (cy 1, 205, .inr (.inl (zB s2 3))))]) (ws' := (wd_Teller_tellBeast cy o0 a0 (zI z17.2) (zL z17.2) o1 a1 (zI s1) (zL s1) (zB s1 1) (zA s1 2) (zB s1 4) (zA s1 5) (zA s1 6) (zA s1 7) (zA s1 10) a2 (zI s2) (zL s2) (zA s2 1) (zA s2 2) (zB s2 3))) (zV (As := [.int 5]) hx hb hml hown hT hl.1 (c_Teller_refuse o0 a0 z8.2 5 hc18) zY_Teller_refuse tb_554 (zpRw hK hP hD [0] (by decide) rfl 0 8 rfl rfl rfl rfl) rm_ok_Teller_tellBeast_Teller_refuse rfl rfl (Nat.le_of_ble_eq_true rfl) dX8_tellBeast_81 ⟨Nat.zero_le _, Nat.zero_le _⟩) hP hD hS hA [0] [1, 2, 3, 4, 5, 6, 7, 8, 9, 10, 11, 12] [12, 0, 1, 2, 3, 4, 5, 6, 7, 8, 9, 10, 11] rfl rfl (by decide) (by decide) (by decide) rfl rfl (fun H locs hP hD hS => ?_)
            obtain ⟨hq19, hf⟩ := zcb_some hf
            cases hf
            exact zewz hx hb hr hk hq19 hK hP hD hS dX8_tellBeast_84
        · have hf := zif_t hb_10 hf
          refine lv_iconst (v := 0) hx hb dX8_tellBeast_54 (by decide) ?_
          cases hf
          exact zewz hx hb hr hk (Or.inl rfl) hK hP hD hS dX8_tellBeast_55
    · have hf := zif_t hb_4 hf
      refine lv_iconst (v := 0) hx hb dX8_tellBeast_30 (by decide) ?_
      cases hf
      exact zewz hx hb hr hk (Or.inl rfl) hK hP hD hS dX8_tellBeast_31
  · have hf := zif_f hb_1 hf
    refine lv_aload_n hx hb dX8_tellBeast_9 rfl (lv_at hl 0 rfl) ?_
    refine lv_iconst (v := 2) hx hb dX8_tellBeast_10 (by decide) ?_
    obtain ⟨z20, hc21, hf⟩ := zbd_some hf
    refine zwi (wr := [(o1, .inr (9, fs_Valley a1 (zI s1) (zL s1))), (a1 1, .inl (cy 1, 3, .inr (.inl (zB s1 1)))), (a1 2, .inl (cy 0, 3, .inl (zA s1 2))), (a1 4, .inl (cy 1, 11, .inr (.inl (zB s1 4)))), (a1 5, .inl (cy 0, 11, .inl (zA s1 5))), (a1 6, .inl (cy 0, 11, .inl (zA s1 6))), (a1 7, .inl (cy 0, 11, .inl (zA s1 7))), (a1 10, .inl (cy 0, 11, .inl (zA s1 10))), ((a0 2), .inr (6, fs_Reader a2 (zI s2) (zL s2))), (a2 1, .inl (cy 0, 205, .inl (zA s2 1))), (a2 2, .inl (cy 0, 205, .inl (zA s2 2))), (a2 3, .inl (cy 1, 205, .inr (.inl (zB s2 3))))]) (ws' := (wd_Teller_tellBeast cy o0 a0 (zI z20.2) (zL z20.2) o1 a1 (zI s1) (zL s1) (zB s1 1) (zA s1 2) (zB s1 4) (zA s1 5) (zA s1 6) (zA s1 7) (zA s1 10) a2 (zI s2) (zL s2) (zA s2 1) (zA s2 2) (zB s2 3))) (zV (As := [.int 2]) hx hb hml hown hT hl.1 (c_Teller_refuse o0 a0 s0 2 hc21) zY_Teller_refuse tb_554 (zpRw hK hP hD [0] (by decide) rfl 0 8 rfl rfl rfl rfl) rm_ok_Teller_tellBeast_Teller_refuse rfl rfl (Nat.le_of_ble_eq_true rfl) dX8_tellBeast_11 ⟨Nat.zero_le _, Nat.zero_le _⟩) hP hD hS hA [0] [1, 2, 3, 4, 5, 6, 7, 8, 9, 10, 11, 12] [12, 0, 1, 2, 3, 4, 5, 6, 7, 8, 9, 10, 11] rfl rfl (by decide) (by decide) (by decide) rfl rfl (fun H locs hP hD hS => ?_)
    obtain ⟨hq22, hf⟩ := zcb_some hf
    cases hf
    exact zewz hx hb hr hk hq22 hK hP hD hS dX8_tellBeast_14
set_option maxHeartbeats 4000000 in
set_option maxRecDepth 100000 in
theorem c_Teller_tellBeast {l : Launch} {dC : Nat → ClassId} {dI : Nat → Nat → Nat} {cy : Nat → ClassId} {sz : Nat} {N : Nat} (o0 : Nat) (a0 : Nat → Nat) (s0 : zSt) (o1 : Nat) (a1 : Nat → Nat) (s1 : zSt) (a2 : Nat → Nat) (s2 : zSt) {y : Int32 × zSt × zSt} (hf : Teller_tellBeast N s0 s1 s2 = some y) : Met l yX8_tellBeast (.code yX8_tellBeast cX8_tellBeast 5 (some .boolean) :: zt) rm_Teller_tellBeast (va_Pc [.ref o0, .ref o1] (zPre (dC, dI) cy (wd_Teller_tellBeast cy o0 a0 (zI s0) (zL s0) o1 a1 (zI s1) (zL s1) (zB s1 1) (zA s1 2) (zB s1 4) (zA s1 5) (zA s1 6) (zA s1 7) (zA s1 10) a2 (zI s2) (zL s2) (zA s2 1) (zA s2 2) (zB s2 3)) sz)) (zQi y.1 (dC, dI) cy (wd_Teller_tellBeast cy o0 a0 (zI y.2.1) (zL y.2.1) o1 a1 (zI y.2.2) (zL y.2.2) (zB y.2.2 1) (zA y.2.2 2) (zB y.2.2 4) (zA y.2.2 5) (zA y.2.2 6) (zA y.2.2 7) (zA y.2.2 10) a2 (zI s2) (zL s2) (zA s2 1) (zA s2 2) (zB s2 3)) (va_A (wd_Teller_tellBeast cy o0 a0 (zI s0) (zL s0) o1 a1 (zI s1) (zL s1) (zB s1 1) (zA s1 2) (zB s1 4) (zA s1 5) (zA s1 6) (zA s1 7) (zA s1 10) a2 (zI s2) (zL s2) (zA s2 1) (zA s2 2) (zB s2 3)) sz)) 0 0 (va_A (wd_Teller_tellBeast cy o0 a0 (zI s0) (zL s0) o1 a1 (zI s1) (zL s1) (zB s1 1) (zA s1 2) (zB s1 4) (zA s1 5) (zA s1 6) (zA s1 7) (zA s1 10) a2 (zI s2) (zL s2) (zA s2 1) (zA s2 2) (zB s2 3)) sz) :=
  zentW (Qw := fun A => (zQi y.1 (dC, dI) cy (wd_Teller_tellBeast cy o0 a0 (zI y.2.1) (zL y.2.1) o1 a1 (zI y.2.2) (zL y.2.2) (zB y.2.2 1) (zA y.2.2 2) (zB y.2.2 4) (zA y.2.2 5) (zA y.2.2 6) (zA y.2.2 7) (zA y.2.2 10) a2 (zI s2) (zL s2) (zA s2 1) (zA s2 2) (zB s2 3)) A)) (by decide +kernel) (Nat.le_of_ble_eq_true rfl) (fun p e s m below meth c A C0 hA hP hD hS ls hl => k_Teller_tellBeast_b0 C0 s0 s1 s2 hA hP hD hS hf ls hl)
def wd_Teller_tellStranger (cy : Nat → ClassId) (o0 : Nat) (a0 : Nat → Nat) (g0 : Nat → Int32) (h0 : Nat → Int64) (o1 : Nat) (a1 : Nat → Nat) (g1 : Nat → Int32) (h1 : Nat → Int64) (x1_2 : Nat → Int32) (x1_4 : Nat → Int64) (x1_5 : Nat → Int32) (x1_6 : Nat → Int32) (x1_7 : Nat → Int32) (x1_10 : Nat → Int32) (a2 : Nat → Nat) (g2 : Nat → Int32) (h2 : Nat → Int64) (x2_1 : Nat → Int32) (x2_2 : Nat → Int32) (x2_3 : Nat → Int64) : va_W := [(o0, .inr (8, fs_Teller a0 g0 h0)), (o1, .inr (9, fs_Valley a1 g1 h1)), (a1 2, .inl (cy 0, 3, .inl x1_2)), (a1 4, .inl (cy 1, 11, .inr (.inl x1_4))), (a1 5, .inl (cy 0, 11, .inl x1_5)), (a1 6, .inl (cy 0, 11, .inl x1_6)), (a1 7, .inl (cy 0, 11, .inl x1_7)), (a1 10, .inl (cy 0, 11, .inl x1_10)), ((a0 2), .inr (6, fs_Reader a2 g2 h2)), (a2 1, .inl (cy 0, 205, .inl x2_1)), (a2 2, .inl (cy 0, 205, .inl x2_2)), (a2 3, .inl (cy 1, 205, .inr (.inl x2_3)))]
def rm_Teller_tellStranger : Room := { frames := 5, cells := 0, slots := 0, locals := 131 }
theorem rm_ok_Teller_tellStranger_Teller_refuse : rm_Teller_refuse.cells = 0 ∧ rm_Teller_refuse.slots = 0 ∧ rm_Teller_refuse.frames + 1 ≤ rm_Teller_tellStranger.frames ∧ 8 + (2 + 11) + rm_Teller_refuse.locals ≤ rm_Teller_tellStranger.locals := by decide
theorem rm_ok_Teller_tellStranger_Teller_takeNewName : rm_Teller_takeNewName.cells = 0 ∧ rm_Teller_takeNewName.slots = 0 ∧ rm_Teller_takeNewName.frames + 1 ≤ rm_Teller_tellStranger.frames ∧ 8 + (3 + 11) + rm_Teller_takeNewName.locals ≤ rm_Teller_tellStranger.locals := by decide
theorem rm_ok_Teller_tellStranger_Teller_tellBell : rm_Teller_tellBell.cells = 0 ∧ rm_Teller_tellBell.slots = 0 ∧ rm_Teller_tellBell.frames + 1 ≤ rm_Teller_tellStranger.frames ∧ 8 + (7 + 11) + rm_Teller_tellBell.locals ≤ rm_Teller_tellStranger.locals := by decide
set_option maxHeartbeats 4000000 in
set_option maxRecDepth 100000 in
theorem k_Teller_tellStranger_b0 {p : Program} {l : Launch} {e : Env} {s : State} {m : MethodId} {args : Array Value} {below : List Frame} {meth : Method} {c : Code} {dC : Nat → ClassId} {dI : Nat → Nat → Nat} {cy : Nat → ClassId} {A : Nat → Prop} {o0 : Nat} {a0 : Nat → Nat} {o1 : Nat} {a1 : Nat → Nat} {a2 : Nat → Nat} {N : Nat} {y : Int32 × zSt × zSt} (C0 : zCx p s m args meth c cX8_tellStranger 2 (some .boolean) RX8 (dC, dI) cy) (s0 : zSt) (s1 : zSt) (s2 : zSt) (hA : ∀ q, s.heap.size ≤ q → A q) {H : Heap} {locs : List Loc} (hP : va_P (dC, dI) vwCl (wd_Teller_tellStranger cy o0 a0 (zI s0) (zL s0) o1 a1 (zI s1) (zL s1) (zA s1 2) (zB s1 4) (zA s1 5) (zA s1 6) (zA s1 7) (zA s1 10) a2 (zI s2) (zL s2) (zA s2 1) (zA s2 2) (zB s2 3)) H) (hD : va_D A (wd_Teller_tellStranger cy o0 a0 (zI s0) (zL s0) o1 a1 (zI s1) (zL s1) (zA s1 2) (zB s1 4) (zA s1 5) (zA s1 6) (zA s1 7) (zA s1 10) a2 (zI s2) (zL s2) (zA s2 1) (zA s2 2) (zB s2 3))) (hS : va_S A s.heap H locs) (hf : Teller_tellStranger_b0 N s0 s1 s2 = some y) (ls : Array Slot) (hl : lv_has ls 2 [(0, .ref o0), (1, .ref o1)]) : W p l e rm_Teller_tellStranger s m args below meth c H locs 0 0 (MQ below (zQi y.1 (dC, dI) cy (wd_Teller_tellStranger cy o0 a0 (zI y.2.1) (zL y.2.1) o1 a1 (zI y.2.2) (zL y.2.2) (zA y.2.2 2) (zB y.2.2 4) (zA y.2.2 5) (zA y.2.2 6) (zA y.2.2 7) (zA y.2.2 10) a2 (zI s2) (zL s2) (zA s2 1) (zA s2 2) (zB s2 3)) A) args s 0 0 A) (F0 m 0 ls []) := by
  obtain ⟨hx, hb, hr, hml, hown, hT, hk, hK⟩ := id C0
  refine lv_aload_n hx hb dX8_tellStranger_0 rfl (lv_at hl 1 rfl) ?_
  refine zget (v := .int (zI s1 3)) hx hb hown hT hK hP inX9 rfl smX9 1 rfl 3 (by decide) tb_106 rfl dX8_tellStranger_1 ?_
  refine lv_aload_n hx hb dX8_tellStranger_4 rfl (lv_at hl 1 rfl) ?_
  refine zget (v := .int (zI s1 9)) hx hb hown hT hK hP inX9 rfl smX9 1 rfl 9 (by decide) tb_124 rfl dX8_tellStranger_5 ?_
  refine lv_isub hx hb dX8_tellStranger_8 ?_
  refine lv_iconst (v := 2) hx hb dX8_tellStranger_9 (by decide) ?_
  refine lv_icmp_lt (tgt := 19) hx hb dX8_tellStranger_10 (by decide) (fun hb_1 => ?_) (fun hb_1 => ?_)
  · have hf := zif_t hb_1 hf
    refine lv_aload_n hx hb dX8_tellStranger_19 rfl (lv_at hl 0 rfl) ?_
    refine lv_aload_n hx hb dX8_tellStranger_20 rfl (lv_at hl 1 rfl) ?_
    refine zget (v := .ref (a1 4)) hx hb hown hT hK hP inX9 rfl smX9 1 rfl 4 (by decide) tb_109 rfl dX8_tellStranger_21 ?_
    refine lv_aload_n hx hb dX8_tellStranger_24 rfl (lv_at hl 1 rfl) ?_
    refine zget (v := .int (zI s1 3)) hx hb hown hT hK hP inX9 rfl smX9 1 rfl 3 (by decide) tb_106 rfl dX8_tellStranger_25 ?_
    obtain ⟨z2, hc3, hf⟩ := zbd_some hf
    refine zwi (wr := [(o1, .inr (9, fs_Valley a1 (zI s1) (zL s1))), (a1 2, .inl (cy 0, 3, .inl (zA s1 2))), (a1 5, .inl (cy 0, 11, .inl (zA s1 5))), (a1 6, .inl (cy 0, 11, .inl (zA s1 6))), (a1 7, .inl (cy 0, 11, .inl (zA s1 7))), (a1 10, .inl (cy 0, 11, .inl (zA s1 10)))]) (ws' := (wd_Teller_tellStranger cy o0 a0 (zI z2.2) (zL z2.2) o1 a1 (zI s1) (zL s1) (zA s1 2) (zB s1 4) (zA s1 5) (zA s1 6) (zA s1 7) (zA s1 10) a2 (zI s2) (zL s2) (zA s2 1) (zA s2 2) (zB s2 3))) (zV (As := [.ref (a1 4), .int (zI s1 3)]) hx hb hml hown hT hl.1 (c_Teller_takeNewName o0 a0 s0 (a1 4) 11 (zB s1 4) a2 s2 (zI s1 3) hc3) zY_Teller_takeNewName tb_563 (zpRw hK hP hD [0, 3, 8, 9, 10, 11] (by decide) rfl 0 8 rfl rfl rfl rfl) rm_ok_Teller_tellStranger_Teller_takeNewName rfl rfl (Nat.le_of_ble_eq_true rfl) dX8_tellStranger_28 ⟨Nat.zero_le _, Nat.zero_le _⟩) hP hD hS hA [0, 3, 8, 9, 10, 11] [1, 2, 4, 5, 6, 7] [6, 0, 1, 7, 2, 3, 4, 5, 8, 9, 10, 11] rfl rfl (by decide) (by decide) (by decide) rfl rfl (fun H locs hP hD hS => ?_)
    refine lv_if_ne (tgt := 36) hx hb dX8_tellStranger_31 (by decide) (fun hb_4 => ?_) (fun hb_4 => ?_)
    · have hf := zif_f hb_4 hf
      refine lv_aload_n hx hb dX8_tellStranger_36 rfl (lv_at hl 0 rfl) ?_
      refine lv_aload_n hx hb dX8_tellStranger_37 rfl (lv_at hl 1 rfl) ?_
      refine lv_aload_n hx hb dX8_tellStranger_38 rfl (lv_at hl 0 rfl) ?_
      refine zget (v := .long (zL z2.2 5)) hx hb hown hT hK hP inX8 rfl smX8 0 rfl 5 (by decide) tb_73 rfl dX8_tellStranger_39 ?_
      refine lv_iconst (v := (-1)) hx hb dX8_tellStranger_42 (by decide) ?_
      obtain ⟨z5, hc6, hf⟩ := zbd_some hf
      refine zwi (wr := []) (ws' := (wd_Teller_tellStranger cy o0 a0 (zI z5.2.1) (zL z5.2.1) o1 a1 (zI z5.2.2) (zL z5.2.2) (zA z5.2.2 2) (zB z5.2.2 4) (zA z5.2.2 5) (zA z5.2.2 6) (zA z5.2.2 7) (zA z5.2.2 10) a2 (zI s2) (zL s2) (zA s2 1) (zA s2 2) (zB s2 3))) (zV (As := [.ref o1, .long (zL z2.2 5), .int (-1)]) hx hb hml hown hT hl.1 (c_Teller_tellBell o0 a0 z2.2 o1 a1 s1 a2 s2 (zL z2.2 5) (-1) hc6) zY_Teller_tellBell tb_597 (zpRw hK hP hD [0, 1, 2, 3, 4, 5, 6, 7, 8, 9, 10, 11] (by decide) rfl 0 8 rfl rfl rfl rfl) rm_ok_Teller_tellStranger_Teller_tellBell rfl rfl (Nat.le_of_ble_eq_true rfl) dX8_tellStranger_43 ⟨Nat.zero_le _, Nat.zero_le _⟩) hP hD hS hA [0, 1, 2, 3, 4, 5, 6, 7, 8, 9, 10, 11] [] [0, 1, 2, 3, 4, 5, 6, 7, 8, 9, 10, 11] rfl rfl (by decide) (by decide) (by decide) rfl rfl (fun H locs hP hD hS => ?_)
      obtain ⟨hq7, hf⟩ := zcb_some hf
      cases hf
      exact zewz hx hb hr hk hq7 hK hP hD hS dX8_tellStranger_46
    · have hf := zif_t hb_4 hf
      refine lv_iconst (v := 0) hx hb dX8_tellStranger_34 (by decide) ?_
      cases hf
      exact zewz hx hb hr hk (Or.inl rfl) hK hP hD hS dX8_tellStranger_35
  · have hf := zif_f hb_1 hf
    refine lv_aload_n hx hb dX8_tellStranger_13 rfl (lv_at hl 0 rfl) ?_
    refine lv_iconst (v := 2) hx hb dX8_tellStranger_14 (by decide) ?_
    obtain ⟨z8, hc9, hf⟩ := zbd_some hf
    refine zwi (wr := [(o1, .inr (9, fs_Valley a1 (zI s1) (zL s1))), (a1 2, .inl (cy 0, 3, .inl (zA s1 2))), (a1 4, .inl (cy 1, 11, .inr (.inl (zB s1 4)))), (a1 5, .inl (cy 0, 11, .inl (zA s1 5))), (a1 6, .inl (cy 0, 11, .inl (zA s1 6))), (a1 7, .inl (cy 0, 11, .inl (zA s1 7))), (a1 10, .inl (cy 0, 11, .inl (zA s1 10))), ((a0 2), .inr (6, fs_Reader a2 (zI s2) (zL s2))), (a2 1, .inl (cy 0, 205, .inl (zA s2 1))), (a2 2, .inl (cy 0, 205, .inl (zA s2 2))), (a2 3, .inl (cy 1, 205, .inr (.inl (zB s2 3))))]) (ws' := (wd_Teller_tellStranger cy o0 a0 (zI z8.2) (zL z8.2) o1 a1 (zI s1) (zL s1) (zA s1 2) (zB s1 4) (zA s1 5) (zA s1 6) (zA s1 7) (zA s1 10) a2 (zI s2) (zL s2) (zA s2 1) (zA s2 2) (zB s2 3))) (zV (As := [.int 2]) hx hb hml hown hT hl.1 (c_Teller_refuse o0 a0 s0 2 hc9) zY_Teller_refuse tb_554 (zpRw hK hP hD [0] (by decide) rfl 0 8 rfl rfl rfl rfl) rm_ok_Teller_tellStranger_Teller_refuse rfl rfl (Nat.le_of_ble_eq_true rfl) dX8_tellStranger_15 ⟨Nat.zero_le _, Nat.zero_le _⟩) hP hD hS hA [0] [1, 2, 3, 4, 5, 6, 7, 8, 9, 10, 11] [11, 0, 1, 2, 3, 4, 5, 6, 7, 8, 9, 10] rfl rfl (by decide) (by decide) (by decide) rfl rfl (fun H locs hP hD hS => ?_)
    obtain ⟨hq10, hf⟩ := zcb_some hf
    cases hf
    exact zewz hx hb hr hk hq10 hK hP hD hS dX8_tellStranger_18
set_option maxHeartbeats 4000000 in
set_option maxRecDepth 100000 in
theorem c_Teller_tellStranger {l : Launch} {dC : Nat → ClassId} {dI : Nat → Nat → Nat} {cy : Nat → ClassId} {sz : Nat} {N : Nat} (o0 : Nat) (a0 : Nat → Nat) (s0 : zSt) (o1 : Nat) (a1 : Nat → Nat) (s1 : zSt) (a2 : Nat → Nat) (s2 : zSt) {y : Int32 × zSt × zSt} (hf : Teller_tellStranger N s0 s1 s2 = some y) : Met l yX8_tellStranger (.code yX8_tellStranger cX8_tellStranger 2 (some .boolean) :: zt) rm_Teller_tellStranger (va_Pc [.ref o0, .ref o1] (zPre (dC, dI) cy (wd_Teller_tellStranger cy o0 a0 (zI s0) (zL s0) o1 a1 (zI s1) (zL s1) (zA s1 2) (zB s1 4) (zA s1 5) (zA s1 6) (zA s1 7) (zA s1 10) a2 (zI s2) (zL s2) (zA s2 1) (zA s2 2) (zB s2 3)) sz)) (zQi y.1 (dC, dI) cy (wd_Teller_tellStranger cy o0 a0 (zI y.2.1) (zL y.2.1) o1 a1 (zI y.2.2) (zL y.2.2) (zA y.2.2 2) (zB y.2.2 4) (zA y.2.2 5) (zA y.2.2 6) (zA y.2.2 7) (zA y.2.2 10) a2 (zI s2) (zL s2) (zA s2 1) (zA s2 2) (zB s2 3)) (va_A (wd_Teller_tellStranger cy o0 a0 (zI s0) (zL s0) o1 a1 (zI s1) (zL s1) (zA s1 2) (zB s1 4) (zA s1 5) (zA s1 6) (zA s1 7) (zA s1 10) a2 (zI s2) (zL s2) (zA s2 1) (zA s2 2) (zB s2 3)) sz)) 0 0 (va_A (wd_Teller_tellStranger cy o0 a0 (zI s0) (zL s0) o1 a1 (zI s1) (zL s1) (zA s1 2) (zB s1 4) (zA s1 5) (zA s1 6) (zA s1 7) (zA s1 10) a2 (zI s2) (zL s2) (zA s2 1) (zA s2 2) (zB s2 3)) sz) :=
  zentW (Qw := fun A => (zQi y.1 (dC, dI) cy (wd_Teller_tellStranger cy o0 a0 (zI y.2.1) (zL y.2.1) o1 a1 (zI y.2.2) (zL y.2.2) (zA y.2.2 2) (zB y.2.2 4) (zA y.2.2 5) (zA y.2.2 6) (zA y.2.2 7) (zA y.2.2 10) a2 (zI s2) (zL s2) (zA s2 1) (zA s2 2) (zB s2 3)) A)) (by decide +kernel) (Nat.le_of_ble_eq_true rfl) (fun p e s m below meth c A C0 hA hP hD hS ls hl => k_Teller_tellStranger_b0 C0 s0 s1 s2 hA hP hD hS hf ls hl)
def wd_Valley_addEar (cy : Nat → ClassId) (o0 : Nat) (a0 : Nat → Nat) (g0 : Nat → Int32) (h0 : Nat → Int64) (x0_13 : Nat → Int64) (x0_14 : Nat → Int32) : va_W := [(o0, .inr (9, fs_Valley a0 g0 h0)), (a0 13, .inl (cy 1, 4, .inr (.inl x0_13))), (a0 14, .inl (cy 0, 4, .inl x0_14))]
def rm_Valley_addEar : Room := { frames := 1, cells := 0, slots := 0, locals := 40 }
set_option maxHeartbeats 4000000 in
set_option maxRecDepth 100000 in
theorem k_Valley_addEar_b0 {p : Program} {l : Launch} {e : Env} {s : State} {m : MethodId} {args : Array Value} {below : List Frame} {meth : Method} {c : Code} {dC : Nat → ClassId} {dI : Nat → Nat → Nat} {cy : Nat → ClassId} {A : Nat → Prop} {o0 : Nat} {a0 : Nat → Nat} {N : Nat} {y : zSt} (C0 : zCx p s m args meth c cX9_addEar 4 none RX9 (dC, dI) cy) (s0 : zSt) (v1 : Int64) (v3 : Int32) (hA : ∀ q, s.heap.size ≤ q → A q) {H : Heap} {locs : List Loc} (hP : va_P (dC, dI) vwCl (wd_Valley_addEar cy o0 a0 (zI s0) (zL s0) (zB s0 13) (zA s0 14)) H) (hD : va_D A (wd_Valley_addEar cy o0 a0 (zI s0) (zL s0) (zB s0 13) (zA s0 14))) (hS : va_S A s.heap H locs) (hf : Valley_addEar_b0 N s0 v1 v3 = some y) (ls : Array Slot) (hl : lv_has ls 4 [(0, .ref o0), (1, .long v1), (3, .int v3)]) : W p l e rm_Valley_addEar s m args below meth c H locs 0 0 (MQ below (zQv (dC, dI) cy (wd_Valley_addEar cy o0 a0 (zI y) (zL y) (zB y 13) (zA y 14)) A) args s 0 0 A) (F0 m 0 ls []) := by
  obtain ⟨hx, hb, hr, hml, hown, hT, hk, hK⟩ := id C0
  refine lv_aload_n hx hb dX9_addEar_0 rfl (lv_at hl 0 rfl) ?_
  refine zget (v := .ref (a0 13)) hx hb hown hT hK hP inX9 rfl smX9 0 rfl 13 (by decide) tb_133 rfl dX9_addEar_1 ?_
  refine lv_aload_n hx hb dX9_addEar_4 rfl (lv_at hl 0 rfl) ?_
  refine zget (v := .int (zI s0 12)) hx hb hown hT hK hP inX9 rfl smX9 0 rfl 12 (by decide) tb_130 rfl dX9_addEar_5 ?_
  refine lv_lload_n hx hb dX9_addEar_8 rfl (lv_at hl 1 rfl) ?_
  obtain ⟨hi1, hf⟩ := zck_some hf
  refine zlst (ws' := (wd_Valley_addEar cy o0 a0 (zI s0) (zL s0) (vp_updL (zB s0 13) (Int32.toNatClampNeg (zI s0 12)) v1) (zA s0 14))) hx hb hK hP hD hS 1 1 rfl rfl hi1 rfl dX9_addEar_9 (fun H locs hP hD hS => ?_)
  refine lv_aload_n hx hb dX9_addEar_10 rfl (lv_at hl 0 rfl) ?_
  refine zget (v := .ref (a0 14)) hx hb hown hT hK hP inX9 rfl smX9 0 rfl 14 (by decide) tb_135 rfl dX9_addEar_11 ?_
  refine lv_aload_n hx hb dX9_addEar_14 rfl (lv_at hl 0 rfl) ?_
  refine zget (v := .int (zI s0 12)) hx hb hown hT hK hP inX9 rfl smX9 0 rfl 12 (by decide) tb_130 rfl dX9_addEar_15 ?_
  refine lv_iload_n hx hb dX9_addEar_18 rfl (lv_at hl 2 rfl) ?_
  obtain ⟨hi2, hf⟩ := zck_some hf
  refine zast (ws' := (wd_Valley_addEar cy o0 a0 (zI s0) (zL s0) (vp_updL (zB s0 13) (Int32.toNatClampNeg (zI s0 12)) v1) (upd (zA s0 14) (Int32.toNatClampNeg (zI s0 12)) v3))) hx hb hK hP hD hS 2 0 rfl rfl hi2 rfl dX9_addEar_19 (fun H locs hP hD hS => ?_)
  refine lv_aload_n hx hb dX9_addEar_20 rfl (lv_at hl 0 rfl) ?_
  refine lv_dup hx hb dX9_addEar_21 rfl ?_
  refine zget (v := .int (zI s0 12)) hx hb hown hT hK hP inX9 rfl smX9 0 rfl 12 (by decide) tb_130 rfl dX9_addEar_22 ?_
  refine lv_iconst (v := 1) hx hb dX9_addEar_25 (by decide) ?_
  refine lv_iadd hx hb dX9_addEar_26 ?_
  refine zput (fs' := fs_Valley a0 (upd (zI s0) 12 ((zI s0 12) + 1)) (zL s0)) (ws' := (wd_Valley_addEar cy o0 a0 (upd (zI s0) 12 ((zI s0 12) + 1)) (zL s0) (vp_updL (zB s0 13) (Int32.toNatClampNeg (zI s0 12)) v1) (upd (zA s0 14) (Int32.toNatClampNeg (zI s0 12)) v3))) hx hb hown hT hK hP hD hS inX9 rfl smX9 tyX9_ok nmX9 0 rfl 12 (by decide) tb_130 rfl rfl rfl (Nat.le_of_ble_eq_true rfl) rfl rfl dX9_addEar_27 (fun H locs hP hD hS => ?_)
  cases hf
  exact zewv hx hb hr hk hK hP hD hS dX9_addEar_30
set_option maxHeartbeats 4000000 in
set_option maxRecDepth 100000 in
theorem c_Valley_addEar {l : Launch} {dC : Nat → ClassId} {dI : Nat → Nat → Nat} {cy : Nat → ClassId} {sz : Nat} {N : Nat} (o0 : Nat) (a0 : Nat → Nat) (s0 : zSt) (v1 : Int64) (v3 : Int32) {y : zSt} (hf : Valley_addEar N s0 v1 v3 = some y) : Met l yX9_addEar (.code yX9_addEar cX9_addEar 4 none :: zt) rm_Valley_addEar (va_Pc [.ref o0, .long v1, .int v3] (zPre (dC, dI) cy (wd_Valley_addEar cy o0 a0 (zI s0) (zL s0) (zB s0 13) (zA s0 14)) sz)) (zQv (dC, dI) cy (wd_Valley_addEar cy o0 a0 (zI y) (zL y) (zB y 13) (zA y 14)) (va_A (wd_Valley_addEar cy o0 a0 (zI s0) (zL s0) (zB s0 13) (zA s0 14)) sz)) 0 0 (va_A (wd_Valley_addEar cy o0 a0 (zI s0) (zL s0) (zB s0 13) (zA s0 14)) sz) :=
  zentW (Qw := fun A => (zQv (dC, dI) cy (wd_Valley_addEar cy o0 a0 (zI y) (zL y) (zB y 13) (zA y 14)) A)) (by decide +kernel) (Nat.le_of_ble_eq_true rfl) (fun p e s m below meth c A C0 hA hP hD hS ls hl => k_Valley_addEar_b0 C0 s0 v1 v3 hA hP hD hS hf ls hl)
def wd_Teller_tellEar (cy : Nat → ClassId) (o0 : Nat) (a0 : Nat → Nat) (g0 : Nat → Int32) (h0 : Nat → Int64) (o1 : Nat) (a1 : Nat → Nat) (g1 : Nat → Int32) (h1 : Nat → Int64) (x1_13 : Nat → Int64) (x1_14 : Nat → Int32) (a2 : Nat → Nat) (g2 : Nat → Int32) (h2 : Nat → Int64) (x2_1 : Nat → Int32) (x2_2 : Nat → Int32) (x2_3 : Nat → Int64) : va_W := [(o0, .inr (8, fs_Teller a0 g0 h0)), (o1, .inr (9, fs_Valley a1 g1 h1)), (a1 13, .inl (cy 1, 4, .inr (.inl x1_13))), (a1 14, .inl (cy 0, 4, .inl x1_14)), ((a0 2), .inr (6, fs_Reader a2 g2 h2)), (a2 1, .inl (cy 0, 205, .inl x2_1)), (a2 2, .inl (cy 0, 205, .inl x2_2)), (a2 3, .inl (cy 1, 205, .inr (.inl x2_3)))]
def rm_Teller_tellEar : Room := { frames := 5, cells := 0, slots := 0, locals := 125 }
theorem rm_ok_Teller_tellEar_Teller_refuse : rm_Teller_refuse.cells = 0 ∧ rm_Teller_refuse.slots = 0 ∧ rm_Teller_refuse.frames + 1 ≤ rm_Teller_tellEar.frames ∧ 8 + (2 + 11) + rm_Teller_refuse.locals ≤ rm_Teller_tellEar.locals := by decide
theorem rm_ok_Teller_tellEar_Teller_take : rm_Teller_take.cells = 0 ∧ rm_Teller_take.slots = 0 ∧ rm_Teller_take.frames + 1 ≤ rm_Teller_tellEar.frames ∧ 8 + (3 + 11) + rm_Teller_take.locals ≤ rm_Teller_tellEar.locals := by decide
theorem rm_ok_Teller_tellEar_Teller_takeNewName : rm_Teller_takeNewName.cells = 0 ∧ rm_Teller_takeNewName.slots = 0 ∧ rm_Teller_takeNewName.frames + 1 ≤ rm_Teller_tellEar.frames ∧ 8 + (3 + 11) + rm_Teller_takeNewName.locals ≤ rm_Teller_tellEar.locals := by decide
theorem rm_ok_Teller_tellEar_Teller_takeNumber : rm_Teller_takeNumber.cells = 0 ∧ rm_Teller_takeNumber.slots = 0 ∧ rm_Teller_takeNumber.frames + 1 ≤ rm_Teller_tellEar.frames ∧ 8 + (3 + 11) + rm_Teller_takeNumber.locals ≤ rm_Teller_tellEar.locals := by decide
theorem rm_ok_Teller_tellEar_Teller_takeWord : rm_Teller_takeWord.cells = 0 ∧ rm_Teller_takeWord.slots = 0 ∧ rm_Teller_takeWord.frames + 1 ≤ rm_Teller_tellEar.frames ∧ 8 + (3 + 11) + rm_Teller_takeWord.locals ≤ rm_Teller_tellEar.locals := by decide
theorem rm_ok_Teller_tellEar_Valley_addEar : rm_Valley_addEar.cells = 0 ∧ rm_Valley_addEar.slots = 0 ∧ rm_Valley_addEar.frames + 1 ≤ rm_Teller_tellEar.frames ∧ 8 + (4 + 11) + rm_Valley_addEar.locals ≤ rm_Teller_tellEar.locals := by decide
set_option maxHeartbeats 4000000 in
set_option maxRecDepth 100000 in
theorem k_Teller_tellEar_b0 {p : Program} {l : Launch} {e : Env} {s : State} {m : MethodId} {args : Array Value} {below : List Frame} {meth : Method} {c : Code} {dC : Nat → ClassId} {dI : Nat → Nat → Nat} {cy : Nat → ClassId} {A : Nat → Prop} {o0 : Nat} {a0 : Nat → Nat} {o1 : Nat} {a1 : Nat → Nat} {a2 : Nat → Nat} {N : Nat} {y : Int32 × zSt × zSt} (C0 : zCx p s m args meth c cX8_tellEar 5 (some .boolean) RX8 (dC, dI) cy) (s0 : zSt) (s1 : zSt) (s2 : zSt) (hA : ∀ q, s.heap.size ≤ q → A q) {H : Heap} {locs : List Loc} (hP : va_P (dC, dI) vwCl (wd_Teller_tellEar cy o0 a0 (zI s0) (zL s0) o1 a1 (zI s1) (zL s1) (zB s1 13) (zA s1 14) a2 (zI s2) (zL s2) (zA s2 1) (zA s2 2) (zB s2 3)) H) (hD : va_D A (wd_Teller_tellEar cy o0 a0 (zI s0) (zL s0) o1 a1 (zI s1) (zL s1) (zB s1 13) (zA s1 14) a2 (zI s2) (zL s2) (zA s2 1) (zA s2 2) (zB s2 3))) (hS : va_S A s.heap H locs) (hf : Teller_tellEar_b0 N s0 s1 s2 = some y) (ls : Array Slot) (hl : lv_has ls 5 [(0, .ref o0), (1, .ref o1)]) : W p l e rm_Teller_tellEar s m args below meth c H locs 0 0 (MQ below (zQi y.1 (dC, dI) cy (wd_Teller_tellEar cy o0 a0 (zI y.2.1) (zL y.2.1) o1 a1 (zI y.2.2) (zL y.2.2) (zB y.2.2 13) (zA y.2.2 14) a2 (zI s2) (zL s2) (zA s2 1) (zA s2 2) (zB s2 3)) A) args s 0 0 A) (F0 m 0 ls []) := by
  obtain ⟨hx, hb, hr, hml, hown, hT, hk, hK⟩ := id C0
  refine lv_aload_n hx hb dX8_tellEar_0 rfl (lv_at hl 1 rfl) ?_
  refine zget (v := .int (zI s1 12)) hx hb hown hT hK hP inX9 rfl smX9 1 rfl 12 (by decide) tb_131 rfl dX8_tellEar_1 ?_
  refine lv_iconst (v := 4) hx hb dX8_tellEar_4 (by decide) ?_
  refine lv_icmp_lt (tgt := 14) hx hb dX8_tellEar_5 (by decide) (fun hb_1 => ?_) (fun hb_1 => ?_)
  · have hf := zif_t hb_1 hf
    refine lv_aload_n hx hb dX8_tellEar_14 rfl (lv_at hl 0 rfl) ?_
    refine lv_aload_n hx hb dX8_tellEar_15 rfl (lv_at hl 1 rfl) ?_
    refine zget (v := .ref (a1 13)) hx hb hown hT hK hP inX9 rfl smX9 1 rfl 13 (by decide) tb_134 rfl dX8_tellEar_16 ?_
    refine lv_aload_n hx hb dX8_tellEar_19 rfl (lv_at hl 1 rfl) ?_
    refine zget (v := .int (zI s1 12)) hx hb hown hT hK hP inX9 rfl smX9 1 rfl 12 (by decide) tb_131 rfl dX8_tellEar_20 ?_
    obtain ⟨z2, hc3, hf⟩ := zbd_some hf
    refine zwi (wr := [(o1, .inr (9, fs_Valley a1 (zI s1) (zL s1))), (a1 14, .inl (cy 0, 4, .inl (zA s1 14)))]) (ws' := (wd_Teller_tellEar cy o0 a0 (zI z2.2) (zL z2.2) o1 a1 (zI s1) (zL s1) (zB s1 13) (zA s1 14) a2 (zI s2) (zL s2) (zA s2 1) (zA s2 2) (zB s2 3))) (zV (As := [.ref (a1 13), .int (zI s1 12)]) hx hb hml hown hT hl.1 (c_Teller_takeNewName o0 a0 s0 (a1 13) 4 (zB s1 13) a2 s2 (zI s1 12) hc3) zY_Teller_takeNewName tb_563 (zpRw hK hP hD [0, 2, 4, 5, 6, 7] (by decide) rfl 0 8 rfl rfl rfl rfl) rm_ok_Teller_tellEar_Teller_takeNewName rfl rfl (Nat.le_of_ble_eq_true rfl) dX8_tellEar_23 ⟨Nat.zero_le _, Nat.zero_le _⟩) hP hD hS hA [0, 2, 4, 5, 6, 7] [1, 3] [2, 0, 3, 1, 4, 5, 6, 7] rfl rfl (by decide) (by decide) (by decide) rfl rfl (fun H locs hP hD hS => ?_)
    refine lv_if_ne (tgt := 31) hx hb dX8_tellEar_26 (by decide) (fun hb_4 => ?_) (fun hb_4 => ?_)
    · have hf := zif_f hb_4 hf
      refine lv_aload_n hx hb dX8_tellEar_31 rfl (lv_at hl 0 rfl) ?_
      refine zget (v := .long (zL z2.2 5)) hx hb hown hT hK hP inX8 rfl smX8 0 rfl 5 (by decide) tb_73 rfl dX8_tellEar_32 ?_
      refine lv_lstore_n (lv' := [(2, .long (zL z2.2 5)), (0, .ref o0), (1, .ref o1)]) hx hb dX8_tellEar_35 rfl hl (by decide) rfl (fun ls hl => ?_)
      refine lv_aload_n hx hb dX8_tellEar_36 rfl (lv_at hl 1 rfl) ?_
      refine lv_ldc2 (v := 24948) hx hb hown (hT _ tb_580) dX8_tellEar_37 ?_
      obtain ⟨z5, hc6, hf⟩ := zbd_some hf
      refine zwi (wr := [(o1, .inr (9, fs_Valley a1 (zI s1) (zL s1))), (a1 13, .inl (cy 1, 4, .inr (.inl (zB s1 13)))), (a1 14, .inl (cy 0, 4, .inl (zA s1 14)))]) (ws' := (wd_Teller_tellEar cy o0 a0 (zI z5.2) (zL z5.2) o1 a1 (zI s1) (zL s1) (zB s1 13) (zA s1 14) a2 (zI s2) (zL s2) (zA s2 1) (zA s2 2) (zB s2 3))) (zV (As := [.long 24948]) hx hb hml hown hT hl.1 (c_Teller_takeWord o0 a0 z2.2 a2 s2 24948 hc6) zY_Teller_takeWord tb_593 (zpRw hK hP hD [0, 4, 5, 6, 7] (by decide) rfl 0 8 rfl rfl rfl rfl) rm_ok_Teller_tellEar_Teller_takeWord rfl rfl (Nat.le_of_ble_eq_true rfl) dX8_tellEar_40 ⟨Nat.zero_le _, Nat.zero_le _⟩) hP hD hS hA [0, 4, 5, 6, 7] [1, 2, 3] [3, 0, 1, 2, 4, 5, 6, 7] rfl rfl (by decide) (by decide) (by decide) rfl rfl (fun H locs hP hD hS => ?_)
      refine lv_if_eq (tgt := 56) hx hb dX8_tellEar_43 (by decide) (fun hb_7 => ?_) (fun hb_7 => ?_)
      · have hf := zif_t hb_7 hf
        refine lv_iconst (v := 0) hx hb dX8_tellEar_56 (by decide) ?_
        cases hf
        exact zewz hx hb hr hk (Or.inl rfl) hK hP hD hS dX8_tellEar_57
      · have hf := zif_f hb_7 hf
        refine lv_aload_n hx hb dX8_tellEar_46 rfl (lv_at hl 1 rfl) ?_
        refine lv_iconst (v := 0) hx hb dX8_tellEar_47 (by decide) ?_
        refine lv_bipush (v := 99) hx hb dX8_tellEar_48 (by decide) ?_
        obtain ⟨z8, hc9, hf⟩ := zbd_some hf
        refine zwi (wr := [(o1, .inr (9, fs_Valley a1 (zI s1) (zL s1))), (a1 13, .inl (cy 1, 4, .inr (.inl (zB s1 13)))), (a1 14, .inl (cy 0, 4, .inl (zA s1 14)))]) (ws' := (wd_Teller_tellEar cy o0 a0 (zI z8.2) (zL z8.2) o1 a1 (zI s1) (zL s1) (zB s1 13) (zA s1 14) a2 (zI s2) (zL s2) (zA s2 1) (zA s2 2) (zB s2 3))) (zV (As := [.int 0, .int 99]) hx hb hml hown hT hl.1 (c_Teller_takeNumber o0 a0 z5.2 a2 s2 0 99 hc9) zY_Teller_takeNumber tb_601 (zpRw hK hP hD [0, 4, 5, 6, 7] (by decide) rfl 0 8 rfl rfl rfl rfl) rm_ok_Teller_tellEar_Teller_takeNumber rfl rfl (Nat.le_of_ble_eq_true rfl) dX8_tellEar_50 ⟨Nat.zero_le _, Nat.zero_le _⟩) hP hD hS hA [0, 4, 5, 6, 7] [1, 2, 3] [3, 0, 1, 2, 4, 5, 6, 7] rfl rfl (by decide) (by decide) (by decide) rfl rfl (fun H locs hP hD hS => ?_)
        refine lv_if_ne (tgt := 58) hx hb dX8_tellEar_53 (by decide) (fun hb_10 => ?_) (fun hb_10 => ?_)
        · have hf := zif_f hb_10 hf
          refine lv_aload_n hx hb dX8_tellEar_58 rfl (lv_at hl 1 rfl) ?_
          refine zget (v := .long (zL z8.2 5)) hx hb hown hT hK hP inX8 rfl smX8 0 rfl 5 (by decide) tb_73 rfl dX8_tellEar_59 ?_
          refine lv_l2i (v := Int64.toInt32 (zL z8.2 5)) hx hb dX8_tellEar_62 rfl ?_
          refine lv_istore (lv' := [(4, .int (Int64.toInt32 (zL z8.2 5))), (2, .long (zL z2.2 5)), (0, .ref o0), (1, .ref o1)]) hx hb dX8_tellEar_63 hl (by decide) rfl (fun ls hl => ?_)
          refine lv_aload_n hx hb dX8_tellEar_65 rfl (lv_at hl 2 rfl) ?_
          refine lv_iconst (v := 4) hx hb dX8_tellEar_66 (by decide) ?_
          obtain ⟨z11, hc12, hf⟩ := zbd_some hf
          refine zwi (wr := [(o1, .inr (9, fs_Valley a1 (zI s1) (zL s1))), (a1 13, .inl (cy 1, 4, .inr (.inl (zB s1 13)))), (a1 14, .inl (cy 0, 4, .inl (zA s1 14)))]) (ws' := (wd_Teller_tellEar cy o0 a0 (zI z11.2) (zL z11.2) o1 a1 (zI s1) (zL s1) (zB s1 13) (zA s1 14) a2 (zI s2) (zL s2) (zA s2 1) (zA s2 2) (zB s2 3))) (zV (As := [.int 4]) hx hb hml hown hT hl.1 (c_Teller_take o0 a0 z8.2 a2 s2 4 hc12) zY_Teller_take tb_550 (zpRw hK hP hD [0, 4, 5, 6, 7] (by decide) rfl 0 8 rfl rfl rfl rfl) rm_ok_Teller_tellEar_Teller_take rfl rfl (Nat.le_of_ble_eq_true rfl) dX8_tellEar_67 ⟨Nat.zero_le _, Nat.zero_le _⟩) hP hD hS hA [0, 4, 5, 6, 7] [1, 2, 3] [3, 0, 1, 2, 4, 5, 6, 7] rfl rfl (by decide) (by decide) (by decide) rfl rfl (fun H locs hP hD hS => ?_)
          refine lv_if_ne (tgt := 75) hx hb dX8_tellEar_70 (by decide) (fun hb_13 => ?_) (fun hb_13 => ?_)
          · have hf := zif_f hb_13 hf
            refine lv_aload_n hx hb dX8_tellEar_75 rfl (lv_at hl 3 rfl) ?_
            refine lv_lload_n hx hb dX8_tellEar_76 rfl (lv_at hl 1 rfl) ?_
            refine lv_iload hx hb dX8_tellEar_77 (lv_at hl 0 rfl) ?_
            obtain ⟨z14, hc15, hf⟩ := zbd_some hf
            refine zwv (wr := [(o0, .inr (8, fs_Teller a0 (zI z11.2) (zL z11.2))), ((a0 2), .inr (6, fs_Reader a2 (zI s2) (zL s2))), (a2 1, .inl (cy 0, 205, .inl (zA s2 1))), (a2 2, .inl (cy 0, 205, .inl (zA s2 2))), (a2 3, .inl (cy 1, 205, .inr (.inl (zB s2 3))))]) (ws' := (wd_Teller_tellEar cy o0 a0 (zI z11.2) (zL z11.2) o1 a1 (zI z14) (zL z14) (zB z14 13) (zA z14 14) a2 (zI s2) (zL s2) (zA s2 1) (zA s2 2) (zB s2 3))) (zV (As := [.long (zL z2.2 5), .int (Int64.toInt32 (zL z8.2 5))]) hx hb hml hown hT hl.1 (c_Valley_addEar o1 a1 s1 (zL z2.2 5) (Int64.toInt32 (zL z8.2 5)) hc15) zY_Valley_addEar tb_617 (zpRw hK hP hD [1, 2, 3] (by decide) rfl 0 9 rfl rfl rfl rfl) rm_ok_Teller_tellEar_Valley_addEar rfl rfl (Nat.le_of_ble_eq_true rfl) dX8_tellEar_79 ⟨Nat.zero_le _, Nat.zero_le _⟩) hP hD hS hA [1, 2, 3] [0, 4, 5, 6, 7] [0, 5, 6, 7, 1, 2, 3, 4] rfl rfl (by decide) (by decide) (by decide) rfl rfl (fun H locs hP hD hS => ?_)
            refine lv_iconst (v := 1) hx hb dX8_tellEar_82 (by decide) ?_
            cases hf
            exact zewz hx hb hr hk (Or.inr rfl) hK hP hD hS dX8_tellEar_83
          · have hf := zif_t hb_13 hf
            refine lv_iconst (v := 0) hx hb dX8_tellEar_73 (by decide) ?_
            cases hf
            exact zewz hx hb hr hk (Or.inl rfl) hK hP hD hS dX8_tellEar_74
        · have hf := zif_t hb_10 hf
          refine lv_iconst (v := 0) hx hb dX8_tellEar_56 (by decide) ?_
          cases hf
          exact zewz hx hb hr hk (Or.inl rfl) hK hP hD hS dX8_tellEar_57
    · have hf := zif_t hb_4 hf
      refine lv_iconst (v := 0) hx hb dX8_tellEar_29 (by decide) ?_
      cases hf
      exact zewz hx hb hr hk (Or.inl rfl) hK hP hD hS dX8_tellEar_30
  · have hf := zif_f hb_1 hf
    refine lv_aload_n hx hb dX8_tellEar_8 rfl (lv_at hl 0 rfl) ?_
    refine lv_iconst (v := 2) hx hb dX8_tellEar_9 (by decide) ?_
    obtain ⟨z16, hc17, hf⟩ := zbd_some hf
    refine zwi (wr := [(o1, .inr (9, fs_Valley a1 (zI s1) (zL s1))), (a1 13, .inl (cy 1, 4, .inr (.inl (zB s1 13)))), (a1 14, .inl (cy 0, 4, .inl (zA s1 14))), ((a0 2), .inr (6, fs_Reader a2 (zI s2) (zL s2))), (a2 1, .inl (cy 0, 205, .inl (zA s2 1))), (a2 2, .inl (cy 0, 205, .inl (zA s2 2))), (a2 3, .inl (cy 1, 205, .inr (.inl (zB s2 3))))]) (ws' := (wd_Teller_tellEar cy o0 a0 (zI z16.2) (zL z16.2) o1 a1 (zI s1) (zL s1) (zB s1 13) (zA s1 14) a2 (zI s2) (zL s2) (zA s2 1) (zA s2 2) (zB s2 3))) (zV (As := [.int 2]) hx hb hml hown hT hl.1 (c_Teller_refuse o0 a0 s0 2 hc17) zY_Teller_refuse tb_554 (zpRw hK hP hD [0] (by decide) rfl 0 8 rfl rfl rfl rfl) rm_ok_Teller_tellEar_Teller_refuse rfl rfl (Nat.le_of_ble_eq_true rfl) dX8_tellEar_10 ⟨Nat.zero_le _, Nat.zero_le _⟩) hP hD hS hA [0] [1, 2, 3, 4, 5, 6, 7] [7, 0, 1, 2, 3, 4, 5, 6] rfl rfl (by decide) (by decide) (by decide) rfl rfl (fun H locs hP hD hS => ?_)
    obtain ⟨hq18, hf⟩ := zcb_some hf
    cases hf
    exact zewz hx hb hr hk hq18 hK hP hD hS dX8_tellEar_13
set_option maxHeartbeats 4000000 in
set_option maxRecDepth 100000 in
theorem c_Teller_tellEar {l : Launch} {dC : Nat → ClassId} {dI : Nat → Nat → Nat} {cy : Nat → ClassId} {sz : Nat} {N : Nat} (o0 : Nat) (a0 : Nat → Nat) (s0 : zSt) (o1 : Nat) (a1 : Nat → Nat) (s1 : zSt) (a2 : Nat → Nat) (s2 : zSt) {y : Int32 × zSt × zSt} (hf : Teller_tellEar N s0 s1 s2 = some y) : Met l yX8_tellEar (.code yX8_tellEar cX8_tellEar 5 (some .boolean) :: zt) rm_Teller_tellEar (va_Pc [.ref o0, .ref o1] (zPre (dC, dI) cy (wd_Teller_tellEar cy o0 a0 (zI s0) (zL s0) o1 a1 (zI s1) (zL s1) (zB s1 13) (zA s1 14) a2 (zI s2) (zL s2) (zA s2 1) (zA s2 2) (zB s2 3)) sz)) (zQi y.1 (dC, dI) cy (wd_Teller_tellEar cy o0 a0 (zI y.2.1) (zL y.2.1) o1 a1 (zI y.2.2) (zL y.2.2) (zB y.2.2 13) (zA y.2.2 14) a2 (zI s2) (zL s2) (zA s2 1) (zA s2 2) (zB s2 3)) (va_A (wd_Teller_tellEar cy o0 a0 (zI s0) (zL s0) o1 a1 (zI s1) (zL s1) (zB s1 13) (zA s1 14) a2 (zI s2) (zL s2) (zA s2 1) (zA s2 2) (zB s2 3)) sz)) 0 0 (va_A (wd_Teller_tellEar cy o0 a0 (zI s0) (zL s0) o1 a1 (zI s1) (zL s1) (zB s1 13) (zA s1 14) a2 (zI s2) (zL s2) (zA s2 1) (zA s2 2) (zB s2 3)) sz) :=
  zentW (Qw := fun A => (zQi y.1 (dC, dI) cy (wd_Teller_tellEar cy o0 a0 (zI y.2.1) (zL y.2.1) o1 a1 (zI y.2.2) (zL y.2.2) (zB y.2.2 13) (zA y.2.2 14) a2 (zI s2) (zL s2) (zA s2 1) (zA s2 2) (zB s2 3)) A)) (by decide +kernel) (Nat.le_of_ble_eq_true rfl) (fun p e s m below meth c A C0 hA hP hD hS ls hl => k_Teller_tellEar_b0 C0 s0 s1 s2 hA hP hD hS hf ls hl)
def wd_Teller_takeBeast (cy : Nat → ClassId) (o0 : Nat) (a0 : Nat → Nat) (g0 : Nat → Int32) (h0 : Nat → Int64) (o1 : Nat) (a1 : Nat → Nat) (g1 : Nat → Int32) (h1 : Nat → Int64) (x1_4 : Nat → Int64) (a2 : Nat → Nat) (g2 : Nat → Int32) (h2 : Nat → Int64) (x2_1 : Nat → Int32) (x2_2 : Nat → Int32) (x2_3 : Nat → Int64) : va_W := [(o0, .inr (8, fs_Teller a0 g0 h0)), (o1, .inr (9, fs_Valley a1 g1 h1)), (a1 4, .inl (cy 1, 11, .inr (.inl x1_4))), ((a0 2), .inr (6, fs_Reader a2 g2 h2)), (a2 1, .inl (cy 0, 205, .inl x2_1)), (a2 2, .inl (cy 0, 205, .inl x2_2)), (a2 3, .inl (cy 1, 205, .inr (.inl x2_3)))]
def rm_Teller_takeBeast : Room := { frames := 4, cells := 0, slots := 0, locals := 103 }
theorem rm_ok_Teller_takeBeast_Teller_find : rm_Teller_find.cells = 0 ∧ rm_Teller_find.slots = 0 ∧ rm_Teller_find.frames + 1 ≤ rm_Teller_takeBeast.frames ∧ 8 + (5 + 11) + rm_Teller_find.locals ≤ rm_Teller_takeBeast.locals := by decide
theorem rm_ok_Teller_takeBeast_Teller_refuse : rm_Teller_refuse.cells = 0 ∧ rm_Teller_refuse.slots = 0 ∧ rm_Teller_refuse.frames + 1 ≤ rm_Teller_takeBeast.frames ∧ 8 + (2 + 11) + rm_Teller_refuse.locals ≤ rm_Teller_takeBeast.locals := by decide
theorem rm_ok_Teller_takeBeast_Teller_takeName : rm_Teller_takeName.cells = 0 ∧ rm_Teller_takeName.slots = 0 ∧ rm_Teller_takeName.frames + 1 ≤ rm_Teller_takeBeast.frames ∧ 8 + (1 + 11) + rm_Teller_takeName.locals ≤ rm_Teller_takeBeast.locals := by decide
theorem rm_ok_Teller_takeBeast_Valley_isBeast : rm_Valley_isBeast.cells = 0 ∧ rm_Valley_isBeast.slots = 0 ∧ rm_Valley_isBeast.frames + 1 ≤ rm_Teller_takeBeast.frames ∧ 8 + (2 + 11) + rm_Valley_isBeast.locals ≤ rm_Teller_takeBeast.locals := by decide
set_option maxHeartbeats 4000000 in
set_option maxRecDepth 100000 in
theorem k_Teller_takeBeast_b38 {p : Program} {l : Launch} {e : Env} {s : State} {m : MethodId} {args : Array Value} {below : List Frame} {meth : Method} {c : Code} {dC : Nat → ClassId} {dI : Nat → Nat → Nat} {cy : Nat → ClassId} {A : Nat → Prop} {o0 : Nat} {a0 : Nat → Nat} {o1 : Nat} {a1 : Nat → Nat} {a2 : Nat → Nat} {N : Nat} {y : Int32 × zSt} (C0 : zCx p s m args meth c cX8_takeBeast 3 (some .int) RX8 (dC, dI) cy) (s0 : zSt) (s1 : zSt) (s2 : zSt) (hA : ∀ q, s.heap.size ≤ q → A q) {H : Heap} {locs : List Loc} (hP : va_P (dC, dI) vwCl (wd_Teller_takeBeast cy o0 a0 (zI s0) (zL s0) o1 a1 (zI s1) (zL s1) (zB s1 4) a2 (zI s2) (zL s2) (zA s2 1) (zA s2 2) (zB s2 3)) H) (hD : va_D A (wd_Teller_takeBeast cy o0 a0 (zI s0) (zL s0) o1 a1 (zI s1) (zL s1) (zB s1 4) a2 (zI s2) (zL s2) (zA s2 1) (zA s2 2) (zB s2 3))) (hS : va_S A s.heap H locs) (hf : Teller_takeBeast_b38 N s0 s1 s2 = some y) (ls : Array Slot) (hl : lv_has ls 3 [(0, .ref o0)]) : W p l e rm_Teller_takeBeast s m args below meth c H locs 0 0 (MQ below (zQi y.1 (dC, dI) cy (wd_Teller_takeBeast cy o0 a0 (zI y.2) (zL y.2) o1 a1 (zI s1) (zL s1) (zB s1 4) a2 (zI s2) (zL s2) (zA s2 1) (zA s2 2) (zB s2 3)) A) args s 0 0 A) (F0 m 38 ls []) := by
  obtain ⟨hx, hb, hr, hml, hown, hT, hk, hK⟩ := id C0
  refine lv_aload_n hx hb dX8_takeBeast_38 rfl (lv_at hl 0 rfl) ?_
  refine lv_iconst (v := 5) hx hb dX8_takeBeast_39 (by decide) ?_
  obtain ⟨z1, hc2, hf⟩ := zbd_some hf
  refine zwi (wr := [(o1, .inr (9, fs_Valley a1 (zI s1) (zL s1))), (a1 4, .inl (cy 1, 11, .inr (.inl (zB s1 4)))), ((a0 2), .inr (6, fs_Reader a2 (zI s2) (zL s2))), (a2 1, .inl (cy 0, 205, .inl (zA s2 1))), (a2 2, .inl (cy 0, 205, .inl (zA s2 2))), (a2 3, .inl (cy 1, 205, .inr (.inl (zB s2 3))))]) (ws' := (wd_Teller_takeBeast cy o0 a0 (zI z1.2) (zL z1.2) o1 a1 (zI s1) (zL s1) (zB s1 4) a2 (zI s2) (zL s2) (zA s2 1) (zA s2 2) (zB s2 3))) (zV (As := [.int 5]) hx hb hml hown hT hl.1 (c_Teller_refuse o0 a0 s0 5 hc2) zY_Teller_refuse tb_554 (zpRw hK hP hD [0] (by decide) rfl 0 8 rfl rfl rfl rfl) rm_ok_Teller_takeBeast_Teller_refuse rfl rfl (Nat.le_of_ble_eq_true rfl) dX8_takeBeast_40 ⟨Nat.zero_le _, Nat.zero_le _⟩) hP hD hS hA [0] [1, 2, 3, 4, 5, 6] [6, 0, 1, 2, 3, 4, 5] rfl rfl (by decide) (by decide) (by decide) rfl rfl (fun H locs hP hD hS => ?_)
  refine lv_pop hx hb dX8_takeBeast_43 rfl ?_
  refine lv_iconst (v := (-1)) hx hb dX8_takeBeast_44 (by decide) ?_
  cases hf
  exact zewi hx hb hr hk hK hP hD hS dX8_takeBeast_45
set_option maxHeartbeats 4000000 in
set_option maxRecDepth 100000 in
theorem k_Teller_takeBeast_b0 {p : Program} {l : Launch} {e : Env} {s : State} {m : MethodId} {args : Array Value} {below : List Frame} {meth : Method} {c : Code} {dC : Nat → ClassId} {dI : Nat → Nat → Nat} {cy : Nat → ClassId} {A : Nat → Prop} {o0 : Nat} {a0 : Nat → Nat} {o1 : Nat} {a1 : Nat → Nat} {a2 : Nat → Nat} {N : Nat} {y : Int32 × zSt} (C0 : zCx p s m args meth c cX8_takeBeast 3 (some .int) RX8 (dC, dI) cy) (s0 : zSt) (s1 : zSt) (s2 : zSt) (hA : ∀ q, s.heap.size ≤ q → A q) {H : Heap} {locs : List Loc} (hP : va_P (dC, dI) vwCl (wd_Teller_takeBeast cy o0 a0 (zI s0) (zL s0) o1 a1 (zI s1) (zL s1) (zB s1 4) a2 (zI s2) (zL s2) (zA s2 1) (zA s2 2) (zB s2 3)) H) (hD : va_D A (wd_Teller_takeBeast cy o0 a0 (zI s0) (zL s0) o1 a1 (zI s1) (zL s1) (zB s1 4) a2 (zI s2) (zL s2) (zA s2 1) (zA s2 2) (zB s2 3))) (hS : va_S A s.heap H locs) (hf : Teller_takeBeast_b0 N s0 s1 s2 = some y) (ls : Array Slot) (hl : lv_has ls 3 [(0, .ref o0), (1, .ref o1)]) : W p l e rm_Teller_takeBeast s m args below meth c H locs 0 0 (MQ below (zQi y.1 (dC, dI) cy (wd_Teller_takeBeast cy o0 a0 (zI y.2) (zL y.2) o1 a1 (zI s1) (zL s1) (zB s1 4) a2 (zI s2) (zL s2) (zA s2 1) (zA s2 2) (zB s2 3)) A) args s 0 0 A) (F0 m 0 ls []) := by
  obtain ⟨hx, hb, hr, hml, hown, hT, hk, hK⟩ := id C0
  refine lv_aload_n hx hb dX8_takeBeast_0 rfl (lv_at hl 0 rfl) ?_
  obtain ⟨z1, hc2, hf⟩ := zbd_some hf
  refine zwi (wr := [(o1, .inr (9, fs_Valley a1 (zI s1) (zL s1))), (a1 4, .inl (cy 1, 11, .inr (.inl (zB s1 4))))]) (ws' := (wd_Teller_takeBeast cy o0 a0 (zI z1.2) (zL z1.2) o1 a1 (zI s1) (zL s1) (zB s1 4) a2 (zI s2) (zL s2) (zA s2 1) (zA s2 2) (zB s2 3))) (zV (As := []) hx hb hml hown hT hl.1 (c_Teller_takeName o0 a0 s0 a2 s2 hc2) zY_Teller_takeName tb_567 (zpRw hK hP hD [0, 3, 4, 5, 6] (by decide) rfl 0 8 rfl rfl rfl rfl) rm_ok_Teller_takeBeast_Teller_takeName rfl rfl (Nat.le_of_ble_eq_true rfl) dX8_takeBeast_1 ⟨Nat.zero_le _, Nat.zero_le _⟩) hP hD hS hA [0, 3, 4, 5, 6] [1, 2] [2, 0, 1, 3, 4, 5, 6] rfl rfl (by decide) (by decide) (by decide) rfl rfl (fun H locs hP hD hS => ?_)
  refine lv_if_ne (tgt := 9) hx hb dX8_takeBeast_4 (by decide) (fun hb_3 => ?_) (fun hb_3 => ?_)
  · have hf := zif_f hb_3 hf
    refine lv_aload_n hx hb dX8_takeBeast_9 rfl (lv_at hl 0 rfl) ?_
    refine zget (v := .long (zL z1.2 5)) hx hb hown hT hK hP inX8 rfl smX8 0 rfl 5 (by decide) tb_73 rfl dX8_takeBeast_10 ?_
    refine lv_aload_n hx hb dX8_takeBeast_13 rfl (lv_at hl 1 rfl) ?_
    refine zget (v := .ref (a1 4)) hx hb hown hT hK hP inX9 rfl smX9 1 rfl 4 (by decide) tb_109 rfl dX8_takeBeast_14 ?_
    refine lv_aload_n hx hb dX8_takeBeast_17 rfl (lv_at hl 1 rfl) ?_
    refine zget (v := .int (zI s1 3)) hx hb hown hT hK hP inX9 rfl smX9 1 rfl 3 (by decide) tb_106 rfl dX8_takeBeast_18 ?_
    obtain ⟨z4, hc5, hf⟩ := zbd_some hf
    refine zri (zS (As := [.long (zL z1.2 5), .ref (a1 4), .int (zI s1 3)]) hx hb hml hown hT hl.1 (c_Teller_find (a1 4) 11 (zB s1 4) (zL z1.2 5) (zI s1 3) hc5) zY_Teller_find tb_582 (zpS hK hP [2] rfl) rm_ok_Teller_takeBeast_Teller_find rfl rfl (Nat.le_of_ble_eq_true rfl) dX8_takeBeast_21 ⟨Nat.zero_le _, Nat.zero_le _⟩) ?_
    refine lv_istore_n (lv' := [(2, .int z4), (0, .ref o0), (1, .ref o1)]) hx hb dX8_takeBeast_24 rfl hl (by decide) rfl (fun ls hl => ?_)
    refine lv_iload_n hx hb dX8_takeBeast_25 rfl (lv_at hl 0 rfl) ?_
    refine lv_iconst (v := (-1)) hx hb dX8_takeBeast_26 (by decide) ?_
    refine lv_icmp_eq (tgt := 38) hx hb dX8_takeBeast_27 (by decide) (fun hb_6 => ?_) (fun hb_6 => ?_)
    · have hf := zif_t hb_6 hf
      exact k_Teller_takeBeast_b38 C0 z1.2 s1 s2  hA hP hD hS hf _ (lv_sub hl [1] rfl)
    · have hf := zif_f hb_6 hf
      refine lv_aload_n hx hb dX8_takeBeast_30 rfl (lv_at hl 2 rfl) ?_
      refine lv_iload_n hx hb dX8_takeBeast_31 rfl (lv_at hl 0 rfl) ?_
      obtain ⟨z7, hc8, hf⟩ := zbd_some hf
      refine zri (zV (As := [.int z4]) hx hb hml hown hT hl.1 (c_Valley_isBeast o1 a1 s1 z4 hc8) zY_Valley_isBeast tb_629 (zpR hK hP [1] rfl 0 9 rfl rfl rfl) rm_ok_Teller_takeBeast_Valley_isBeast rfl rfl (Nat.le_of_ble_eq_true rfl) dX8_takeBeast_32 ⟨Nat.zero_le _, Nat.zero_le _⟩) ?_
      refine lv_if_ne (tgt := 46) hx hb dX8_takeBeast_35 (by decide) (fun hb_9 => ?_) (fun hb_9 => ?_)
      · have hf := zif_f hb_9 hf
        refine lv_iload_n hx hb dX8_takeBeast_46 rfl (lv_at hl 0 rfl) ?_
        cases hf
        exact zewi hx hb hr hk hK hP hD hS dX8_takeBeast_47
      · have hf := zif_t hb_9 hf
        exact k_Teller_takeBeast_b38 C0 z1.2 s1 s2  hA hP hD hS hf _ (lv_sub hl [1] rfl)
  · have hf := zif_t hb_3 hf
    refine lv_iconst (v := (-1)) hx hb dX8_takeBeast_7 (by decide) ?_
    cases hf
    exact zewi hx hb hr hk hK hP hD hS dX8_takeBeast_8
set_option maxHeartbeats 4000000 in
set_option maxRecDepth 100000 in
theorem c_Teller_takeBeast {l : Launch} {dC : Nat → ClassId} {dI : Nat → Nat → Nat} {cy : Nat → ClassId} {sz : Nat} {N : Nat} (o0 : Nat) (a0 : Nat → Nat) (s0 : zSt) (o1 : Nat) (a1 : Nat → Nat) (s1 : zSt) (a2 : Nat → Nat) (s2 : zSt) {y : Int32 × zSt} (hf : Teller_takeBeast N s0 s1 s2 = some y) : Met l yX8_takeBeast (.code yX8_takeBeast cX8_takeBeast 3 (some .int) :: zt) rm_Teller_takeBeast (va_Pc [.ref o0, .ref o1] (zPre (dC, dI) cy (wd_Teller_takeBeast cy o0 a0 (zI s0) (zL s0) o1 a1 (zI s1) (zL s1) (zB s1 4) a2 (zI s2) (zL s2) (zA s2 1) (zA s2 2) (zB s2 3)) sz)) (zQi y.1 (dC, dI) cy (wd_Teller_takeBeast cy o0 a0 (zI y.2) (zL y.2) o1 a1 (zI s1) (zL s1) (zB s1 4) a2 (zI s2) (zL s2) (zA s2 1) (zA s2 2) (zB s2 3)) (va_A (wd_Teller_takeBeast cy o0 a0 (zI s0) (zL s0) o1 a1 (zI s1) (zL s1) (zB s1 4) a2 (zI s2) (zL s2) (zA s2 1) (zA s2 2) (zB s2 3)) sz)) 0 0 (va_A (wd_Teller_takeBeast cy o0 a0 (zI s0) (zL s0) o1 a1 (zI s1) (zL s1) (zB s1 4) a2 (zI s2) (zL s2) (zA s2 1) (zA s2 2) (zB s2 3)) sz) :=
  zentW (Qw := fun A => (zQi y.1 (dC, dI) cy (wd_Teller_takeBeast cy o0 a0 (zI y.2) (zL y.2) o1 a1 (zI s1) (zL s1) (zB s1 4) a2 (zI s2) (zL s2) (zA s2 1) (zA s2 2) (zB s2 3)) A)) (by decide +kernel) (Nat.le_of_ble_eq_true rfl) (fun p e s m below meth c A C0 hA hP hD hS ls hl => k_Teller_takeBeast_b0 C0 s0 s1 s2 hA hP hD hS hf ls hl)
def wd_Valley_addBeside (cy : Nat → ClassId) (o0 : Nat) (a0 : Nat → Nat) (g0 : Nat → Int32) (h0 : Nat → Int64) (x0_10 : Nat → Int32) : va_W := [(o0, .inr (9, fs_Valley a0 g0 h0)), (a0 10, .inl (cy 0, 11, .inl x0_10))]
def rm_Valley_addBeside : Room := { frames := 1, cells := 0, slots := 0, locals := 40 }
set_option maxHeartbeats 4000000 in
set_option maxRecDepth 100000 in
theorem k_Valley_addBeside_b34 {p : Program} {l : Launch} {e : Env} {s : State} {m : MethodId} {args : Array Value} {below : List Frame} {meth : Method} {c : Code} {dC : Nat → ClassId} {dI : Nat → Nat → Nat} {cy : Nat → ClassId} {A : Nat → Prop} {o0 : Nat} {a0 : Nat → Nat} {N : Nat} {y : zSt} (C0 : zCx p s m args meth c cX9_addBeside 3 none RX9 (dC, dI) cy) (s0 : zSt) (hA : ∀ q, s.heap.size ≤ q → A q) {H : Heap} {locs : List Loc} (hP : va_P (dC, dI) vwCl (wd_Valley_addBeside cy o0 a0 (zI s0) (zL s0) (zA s0 10)) H) (hD : va_D A (wd_Valley_addBeside cy o0 a0 (zI s0) (zL s0) (zA s0 10))) (hS : va_S A s.heap H locs) (hf : Valley_addBeside_b34 N s0 = some y) (ls : Array Slot) (hl : lv_has ls 3 []) : W p l e rm_Valley_addBeside s m args below meth c H locs 0 0 (MQ below (zQv (dC, dI) cy (wd_Valley_addBeside cy o0 a0 (zI y) (zL y) (zA y 10)) A) args s 0 0 A) (F0 m 34 ls []) := by
  obtain ⟨hx, hb, hr, hml, hown, hT, hk, hK⟩ := id C0
  cases hf
  exact zewv hx hb hr hk hK hP hD hS dX9_addBeside_34
set_option maxHeartbeats 4000000 in
set_option maxRecDepth 100000 in
theorem k_Valley_addBeside_b24 {p : Program} {l : Launch} {e : Env} {s : State} {m : MethodId} {args : Array Value} {below : List Frame} {meth : Method} {c : Code} {dC : Nat → ClassId} {dI : Nat → Nat → Nat} {cy : Nat → ClassId} {A : Nat → Prop} {o0 : Nat} {a0 : Nat → Nat} {N : Nat} {y : zSt} (C0 : zCx p s m args meth c cX9_addBeside 3 none RX9 (dC, dI) cy) (s0 : zSt) (hA : ∀ q, s.heap.size ≤ q → A q) {H : Heap} {locs : List Loc} (hP : va_P (dC, dI) vwCl (wd_Valley_addBeside cy o0 a0 (zI s0) (zL s0) (zA s0 10)) H) (hD : va_D A (wd_Valley_addBeside cy o0 a0 (zI s0) (zL s0) (zA s0 10))) (hS : va_S A s.heap H locs) (hf : Valley_addBeside_b24 N s0 = some y) (ls : Array Slot) (hl : lv_has ls 3 [(0, .ref o0)]) : W p l e rm_Valley_addBeside s m args below meth c H locs 0 0 (MQ below (zQv (dC, dI) cy (wd_Valley_addBeside cy o0 a0 (zI y) (zL y) (zA y 10)) A) args s 0 0 A) (F0 m 24 ls []) := by
  obtain ⟨hx, hb, hr, hml, hown, hT, hk, hK⟩ := id C0
  refine lv_aload_n hx hb dX9_addBeside_24 rfl (lv_at hl 0 rfl) ?_
  refine lv_dup hx hb dX9_addBeside_25 rfl ?_
  refine zget (v := .int (zI s0 11)) hx hb hown hT hK hP inX9 rfl smX9 0 rfl 11 (by decide) tb_128 rfl dX9_addBeside_26 ?_
  refine lv_iconst (v := 1) hx hb dX9_addBeside_29 (by decide) ?_
  refine lv_iadd hx hb dX9_addBeside_30 ?_
  refine zput (fs' := fs_Valley a0 (upd (zI s0) 11 ((zI s0 11) + 1)) (zL s0)) (ws' := (wd_Valley_addBeside cy o0 a0 (upd (zI s0) 11 ((zI s0 11) + 1)) (zL s0) (zA s0 10))) hx hb hown hT hK hP hD hS inX9 rfl smX9 tyX9_ok nmX9 0 rfl 11 (by decide) tb_128 rfl rfl rfl (Nat.le_of_ble_eq_true rfl) rfl rfl dX9_addBeside_31 (fun H locs hP hD hS => ?_)
  exact k_Valley_addBeside_b34 C0 (zpI s0 11 ((zI s0 11) + 1))  hA hP hD hS hf _ (lv_sub hl [] rfl)
set_option maxHeartbeats 4000000 in
set_option maxRecDepth 100000 in
theorem k_Valley_addBeside_b0 {p : Program} {l : Launch} {e : Env} {s : State} {m : MethodId} {args : Array Value} {below : List Frame} {meth : Method} {c : Code} {dC : Nat → ClassId} {dI : Nat → Nat → Nat} {cy : Nat → ClassId} {A : Nat → Prop} {o0 : Nat} {a0 : Nat → Nat} {N : Nat} {y : zSt} (C0 : zCx p s m args meth c cX9_addBeside 3 none RX9 (dC, dI) cy) (s0 : zSt) (v1 : Int32) (v2 : Int32) (hA : ∀ q, s.heap.size ≤ q → A q) {H : Heap} {locs : List Loc} (hP : va_P (dC, dI) vwCl (wd_Valley_addBeside cy o0 a0 (zI s0) (zL s0) (zA s0 10)) H) (hD : va_D A (wd_Valley_addBeside cy o0 a0 (zI s0) (zL s0) (zA s0 10))) (hS : va_S A s.heap H locs) (hf : Valley_addBeside_b0 N s0 v1 v2 = some y) (ls : Array Slot) (hl : lv_has ls 3 [(0, .ref o0), (1, .int v1), (2, .int v2)]) : W p l e rm_Valley_addBeside s m args below meth c H locs 0 0 (MQ below (zQv (dC, dI) cy (wd_Valley_addBeside cy o0 a0 (zI y) (zL y) (zA y 10)) A) args s 0 0 A) (F0 m 0 ls []) := by
  obtain ⟨hx, hb, hr, hml, hown, hT, hk, hK⟩ := id C0
  refine lv_aload_n hx hb dX9_addBeside_0 rfl (lv_at hl 0 rfl) ?_
  refine zget (v := .ref (a0 10)) hx hb hown hT hK hP inX9 rfl smX9 0 rfl 10 (by decide) tb_126 rfl dX9_addBeside_1 ?_
  refine lv_iload_n hx hb dX9_addBeside_4 rfl (lv_at hl 1 rfl) ?_
  refine lv_dup2_11 hx hb dX9_addBeside_5 rfl rfl ?_
  obtain ⟨hi1, hf⟩ := zck_some hf
  refine va_iald hx hb hK.1 hP 1 0 rfl rfl hi1 dX9_addBeside_6 ?_
  refine lv_iconst (v := 1) hx hb dX9_addBeside_7 (by decide) ?_
  refine lv_iload_n hx hb dX9_addBeside_8 rfl (lv_at hl 2 rfl) ?_
  refine lv_ishl hx hb dX9_addBeside_9 ?_
  refine lv_ior hx hb dX9_addBeside_10 ?_
  obtain ⟨hi2, hf⟩ := zck_some hf
  refine zast (ws' := (wd_Valley_addBeside cy o0 a0 (zI s0) (zL s0) (upd (zA s0 10) (Int32.toNatClampNeg v1) (((zA s0 10) (Int32.toNatClampNeg v1)) ||| ((1 : Int32) <<< (v2 &&& 31)))))) hx hb hK hP hD hS 1 0 rfl rfl hi2 rfl dX9_addBeside_11 (fun H locs hP hD hS => ?_)
  refine lv_aload_n hx hb dX9_addBeside_12 rfl (lv_at hl 0 rfl) ?_
  refine zget (v := .ref (a0 10)) hx hb hown hT hK hP inX9 rfl smX9 0 rfl 10 (by decide) tb_126 rfl dX9_addBeside_13 ?_
  refine lv_iload_n hx hb dX9_addBeside_16 rfl (lv_at hl 2 rfl) ?_
  refine lv_dup2_11 hx hb dX9_addBeside_17 rfl rfl ?_
  obtain ⟨hi3, hf⟩ := zck_some hf
  refine va_iald hx hb hK.1 hP 1 0 rfl rfl hi3 dX9_addBeside_18 ?_
  refine lv_iconst (v := 1) hx hb dX9_addBeside_19 (by decide) ?_
  refine lv_iload_n hx hb dX9_addBeside_20 rfl (lv_at hl 1 rfl) ?_
  refine lv_ishl hx hb dX9_addBeside_21 ?_
  refine lv_ior hx hb dX9_addBeside_22 ?_
  obtain ⟨hi4, hf⟩ := zck_some hf
  refine zast (ws' := (wd_Valley_addBeside cy o0 a0 (zI s0) (zL s0) (upd (upd (zA s0 10) (Int32.toNatClampNeg v1) (((zA s0 10) (Int32.toNatClampNeg v1)) ||| ((1 : Int32) <<< (v2 &&& 31)))) (Int32.toNatClampNeg v2) (((upd (zA s0 10) (Int32.toNatClampNeg v1) (((zA s0 10) (Int32.toNatClampNeg v1)) ||| ((1 : Int32) <<< (v2 &&& 31)))) (Int32.toNatClampNeg v2)) ||| ((1 : Int32) <<< (v1 &&& 31)))))) hx hb hK hP hD hS 1 0 rfl rfl hi4 rfl dX9_addBeside_23 (fun H locs hP hD hS => ?_)
  exact k_Valley_addBeside_b24 C0 (zsA (zsA s0 10 (upd (zA s0 10) (Int32.toNatClampNeg v1) (((zA s0 10) (Int32.toNatClampNeg v1)) ||| ((1 : Int32) <<< (v2 &&& 31))))) 10 (upd (upd (zA s0 10) (Int32.toNatClampNeg v1) (((zA s0 10) (Int32.toNatClampNeg v1)) ||| ((1 : Int32) <<< (v2 &&& 31)))) (Int32.toNatClampNeg v2) (((upd (zA s0 10) (Int32.toNatClampNeg v1) (((zA s0 10) (Int32.toNatClampNeg v1)) ||| ((1 : Int32) <<< (v2 &&& 31)))) (Int32.toNatClampNeg v2)) ||| ((1 : Int32) <<< (v1 &&& 31)))))  hA hP hD hS hf _ (lv_sub hl [0] rfl)
set_option maxHeartbeats 4000000 in
set_option maxRecDepth 100000 in
theorem c_Valley_addBeside {l : Launch} {dC : Nat → ClassId} {dI : Nat → Nat → Nat} {cy : Nat → ClassId} {sz : Nat} {N : Nat} (o0 : Nat) (a0 : Nat → Nat) (s0 : zSt) (v1 : Int32) (v2 : Int32) {y : zSt} (hf : Valley_addBeside N s0 v1 v2 = some y) : Met l yX9_addBeside (.code yX9_addBeside cX9_addBeside 3 none :: zt) rm_Valley_addBeside (va_Pc [.ref o0, .int v1, .int v2] (zPre (dC, dI) cy (wd_Valley_addBeside cy o0 a0 (zI s0) (zL s0) (zA s0 10)) sz)) (zQv (dC, dI) cy (wd_Valley_addBeside cy o0 a0 (zI y) (zL y) (zA y 10)) (va_A (wd_Valley_addBeside cy o0 a0 (zI s0) (zL s0) (zA s0 10)) sz)) 0 0 (va_A (wd_Valley_addBeside cy o0 a0 (zI s0) (zL s0) (zA s0 10)) sz) :=
  zentW (Qw := fun A => (zQv (dC, dI) cy (wd_Valley_addBeside cy o0 a0 (zI y) (zL y) (zA y 10)) A)) (by decide +kernel) (Nat.le_of_ble_eq_true rfl) (fun p e s m below meth c A C0 hA hP hD hS ls hl => k_Valley_addBeside_b0 C0 s0 v1 v2 hA hP hD hS hf ls hl)
def wd_Teller_tellBeside (cy : Nat → ClassId) (o0 : Nat) (a0 : Nat → Nat) (g0 : Nat → Int32) (h0 : Nat → Int64) (o1 : Nat) (a1 : Nat → Nat) (g1 : Nat → Int32) (h1 : Nat → Int64) (x1_4 : Nat → Int64) (x1_10 : Nat → Int32) (a2 : Nat → Nat) (g2 : Nat → Int32) (h2 : Nat → Int64) (x2_1 : Nat → Int32) (x2_2 : Nat → Int32) (x2_3 : Nat → Int64) : va_W := [(o0, .inr (8, fs_Teller a0 g0 h0)), (o1, .inr (9, fs_Valley a1 g1 h1)), (a1 4, .inl (cy 1, 11, .inr (.inl x1_4))), (a1 10, .inl (cy 0, 11, .inl x1_10)), ((a0 2), .inr (6, fs_Reader a2 g2 h2)), (a2 1, .inl (cy 0, 205, .inl x2_1)), (a2 2, .inl (cy 0, 205, .inl x2_2)), (a2 3, .inl (cy 1, 205, .inr (.inl x2_3)))]
def rm_Teller_tellBeside : Room := { frames := 5, cells := 0, slots := 0, locals := 125 }
theorem rm_ok_Teller_tellBeside_Teller_refuse : rm_Teller_refuse.cells = 0 ∧ rm_Teller_refuse.slots = 0 ∧ rm_Teller_refuse.frames + 1 ≤ rm_Teller_tellBeside.frames ∧ 8 + (2 + 11) + rm_Teller_refuse.locals ≤ rm_Teller_tellBeside.locals := by decide
theorem rm_ok_Teller_tellBeside_Teller_take : rm_Teller_take.cells = 0 ∧ rm_Teller_take.slots = 0 ∧ rm_Teller_take.frames + 1 ≤ rm_Teller_tellBeside.frames ∧ 8 + (3 + 11) + rm_Teller_take.locals ≤ rm_Teller_tellBeside.locals := by decide
theorem rm_ok_Teller_tellBeside_Teller_takeBeast : rm_Teller_takeBeast.cells = 0 ∧ rm_Teller_takeBeast.slots = 0 ∧ rm_Teller_takeBeast.frames + 1 ≤ rm_Teller_tellBeside.frames ∧ 8 + (3 + 11) + rm_Teller_takeBeast.locals ≤ rm_Teller_tellBeside.locals := by decide
theorem rm_ok_Teller_tellBeside_Valley_addBeside : rm_Valley_addBeside.cells = 0 ∧ rm_Valley_addBeside.slots = 0 ∧ rm_Valley_addBeside.frames + 1 ≤ rm_Teller_tellBeside.frames ∧ 8 + (3 + 11) + rm_Valley_addBeside.locals ≤ rm_Teller_tellBeside.locals := by decide
set_option maxHeartbeats 4000000 in
set_option maxRecDepth 100000 in
theorem k_Teller_tellBeside_b60 {p : Program} {l : Launch} {e : Env} {s : State} {m : MethodId} {args : Array Value} {below : List Frame} {meth : Method} {c : Code} {dC : Nat → ClassId} {dI : Nat → Nat → Nat} {cy : Nat → ClassId} {A : Nat → Prop} {o0 : Nat} {a0 : Nat → Nat} {o1 : Nat} {a1 : Nat → Nat} {a2 : Nat → Nat} {N : Nat} {y : Int32 × zSt × zSt} (C0 : zCx p s m args meth c cX8_tellBeside 4 (some .boolean) RX8 (dC, dI) cy) (s0 : zSt) (s1 : zSt) (s2 : zSt) (hA : ∀ q, s.heap.size ≤ q → A q) {H : Heap} {locs : List Loc} (hP : va_P (dC, dI) vwCl (wd_Teller_tellBeside cy o0 a0 (zI s0) (zL s0) o1 a1 (zI s1) (zL s1) (zB s1 4) (zA s1 10) a2 (zI s2) (zL s2) (zA s2 1) (zA s2 2) (zB s2 3)) H) (hD : va_D A (wd_Teller_tellBeside cy o0 a0 (zI s0) (zL s0) o1 a1 (zI s1) (zL s1) (zB s1 4) (zA s1 10) a2 (zI s2) (zL s2) (zA s2 1) (zA s2 2) (zB s2 3))) (hS : va_S A s.heap H locs) (hf : Teller_tellBeside_b60 N s0 s1 s2 = some y) (ls : Array Slot) (hl : lv_has ls 4 [(0, .ref o0)]) : W p l e rm_Teller_tellBeside s m args below meth c H locs 0 0 (MQ below (zQi y.1 (dC, dI) cy (wd_Teller_tellBeside cy o0 a0 (zI y.2.1) (zL y.2.1) o1 a1 (zI y.2.2) (zL y.2.2) (zB y.2.2 4) (zA y.2.2 10) a2 (zI s2) (zL s2) (zA s2 1) (zA s2 2) (zB s2 3)) A) args s 0 0 A) (F0 m 60 ls []) := by
  obtain ⟨hx, hb, hr, hml, hown, hT, hk, hK⟩ := id C0
  refine lv_aload_n hx hb dX8_tellBeside_60 rfl (lv_at hl 0 rfl) ?_
  refine lv_iconst (v := 3) hx hb dX8_tellBeside_61 (by decide) ?_
  obtain ⟨z1, hc2, hf⟩ := zbd_some hf
  refine zwi (wr := [(o1, .inr (9, fs_Valley a1 (zI s1) (zL s1))), (a1 4, .inl (cy 1, 11, .inr (.inl (zB s1 4)))), (a1 10, .inl (cy 0, 11, .inl (zA s1 10))), ((a0 2), .inr (6, fs_Reader a2 (zI s2) (zL s2))), (a2 1, .inl (cy 0, 205, .inl (zA s2 1))), (a2 2, .inl (cy 0, 205, .inl (zA s2 2))), (a2 3, .inl (cy 1, 205, .inr (.inl (zB s2 3))))]) (ws' := (wd_Teller_tellBeside cy o0 a0 (zI z1.2) (zL z1.2) o1 a1 (zI s1) (zL s1) (zB s1 4) (zA s1 10) a2 (zI s2) (zL s2) (zA s2 1) (zA s2 2) (zB s2 3))) (zV (As := [.int 3]) hx hb hml hown hT hl.1 (c_Teller_refuse o0 a0 s0 3 hc2) zY_Teller_refuse tb_554 (zpRw hK hP hD [0] (by decide) rfl 0 8 rfl rfl rfl rfl) rm_ok_Teller_tellBeside_Teller_refuse rfl rfl (Nat.le_of_ble_eq_true rfl) dX8_tellBeside_62 ⟨Nat.zero_le _, Nat.zero_le _⟩) hP hD hS hA [0] [1, 2, 3, 4, 5, 6, 7] [7, 0, 1, 2, 3, 4, 5, 6] rfl rfl (by decide) (by decide) (by decide) rfl rfl (fun H locs hP hD hS => ?_)
  obtain ⟨hq3, hf⟩ := zcb_some hf
  cases hf
  exact zewz hx hb hr hk hq3 hK hP hD hS dX8_tellBeside_65
set_option maxHeartbeats 4000000 in
set_option maxRecDepth 100000 in
theorem k_Teller_tellBeside_b0 {p : Program} {l : Launch} {e : Env} {s : State} {m : MethodId} {args : Array Value} {below : List Frame} {meth : Method} {c : Code} {dC : Nat → ClassId} {dI : Nat → Nat → Nat} {cy : Nat → ClassId} {A : Nat → Prop} {o0 : Nat} {a0 : Nat → Nat} {o1 : Nat} {a1 : Nat → Nat} {a2 : Nat → Nat} {N : Nat} {y : Int32 × zSt × zSt} (C0 : zCx p s m args meth c cX8_tellBeside 4 (some .boolean) RX8 (dC, dI) cy) (s0 : zSt) (s1 : zSt) (s2 : zSt) (hA : ∀ q, s.heap.size ≤ q → A q) {H : Heap} {locs : List Loc} (hP : va_P (dC, dI) vwCl (wd_Teller_tellBeside cy o0 a0 (zI s0) (zL s0) o1 a1 (zI s1) (zL s1) (zB s1 4) (zA s1 10) a2 (zI s2) (zL s2) (zA s2 1) (zA s2 2) (zB s2 3)) H) (hD : va_D A (wd_Teller_tellBeside cy o0 a0 (zI s0) (zL s0) o1 a1 (zI s1) (zL s1) (zB s1 4) (zA s1 10) a2 (zI s2) (zL s2) (zA s2 1) (zA s2 2) (zB s2 3))) (hS : va_S A s.heap H locs) (hf : Teller_tellBeside_b0 N s0 s1 s2 = some y) (ls : Array Slot) (hl : lv_has ls 4 [(0, .ref o0), (1, .ref o1)]) : W p l e rm_Teller_tellBeside s m args below meth c H locs 0 0 (MQ below (zQi y.1 (dC, dI) cy (wd_Teller_tellBeside cy o0 a0 (zI y.2.1) (zL y.2.1) o1 a1 (zI y.2.2) (zL y.2.2) (zB y.2.2 4) (zA y.2.2 10) a2 (zI s2) (zL s2) (zA s2 1) (zA s2 2) (zB s2 3)) A) args s 0 0 A) (F0 m 0 ls []) := by
  obtain ⟨hx, hb, hr, hml, hown, hT, hk, hK⟩ := id C0
  refine lv_aload_n hx hb dX8_tellBeside_0 rfl (lv_at hl 1 rfl) ?_
  refine zget (v := .int (zI s1 11)) hx hb hown hT hK hP inX9 rfl smX9 1 rfl 11 (by decide) tb_129 rfl dX8_tellBeside_1 ?_
  refine lv_bipush (v := 20) hx hb dX8_tellBeside_4 (by decide) ?_
  refine lv_icmp_lt (tgt := 15) hx hb dX8_tellBeside_6 (by decide) (fun hb_1 => ?_) (fun hb_1 => ?_)
  · have hf := zif_t hb_1 hf
    refine lv_aload_n hx hb dX8_tellBeside_15 rfl (lv_at hl 0 rfl) ?_
    refine lv_aload_n hx hb dX8_tellBeside_16 rfl (lv_at hl 1 rfl) ?_
    obtain ⟨z2, hc3, hf⟩ := zbd_some hf
    refine zwi (wr := [(a1 10, .inl (cy 0, 11, .inl (zA s1 10)))]) (ws' := (wd_Teller_tellBeside cy o0 a0 (zI z2.2) (zL z2.2) o1 a1 (zI s1) (zL s1) (zB s1 4) (zA s1 10) a2 (zI s2) (zL s2) (zA s2 1) (zA s2 2) (zB s2 3))) (zV (As := [.ref o1]) hx hb hml hown hT hl.1 (c_Teller_takeBeast o0 a0 s0 o1 a1 s1 a2 s2 hc3) zY_Teller_takeBeast tb_625 (zpRw hK hP hD [0, 1, 2, 4, 5, 6, 7] (by decide) rfl 0 8 rfl rfl rfl rfl) rm_ok_Teller_tellBeside_Teller_takeBeast rfl rfl (Nat.le_of_ble_eq_true rfl) dX8_tellBeside_17 ⟨Nat.zero_le _, Nat.zero_le _⟩) hP hD hS hA [0, 1, 2, 4, 5, 6, 7] [3] [1, 2, 3, 0, 4, 5, 6, 7] rfl rfl (by decide) (by decide) (by decide) rfl rfl (fun H locs hP hD hS => ?_)
    refine lv_istore_n (lv' := [(2, .int z2.1), (0, .ref o0), (1, .ref o1)]) hx hb dX8_tellBeside_20 rfl hl (by decide) rfl (fun ls hl => ?_)
    refine lv_iload_n hx hb dX8_tellBeside_21 rfl (lv_at hl 0 rfl) ?_
    refine lv_iconst (v := (-1)) hx hb dX8_tellBeside_22 (by decide) ?_
    refine lv_icmp_ne (tgt := 28) hx hb dX8_tellBeside_23 (by decide) (fun hb_4 => ?_) (fun hb_4 => ?_)
    · have hf := zif_f hb_4 hf
      refine lv_aload_n hx hb dX8_tellBeside_28 rfl (lv_at hl 1 rfl) ?_
      refine lv_aload_n hx hb dX8_tellBeside_29 rfl (lv_at hl 2 rfl) ?_
      obtain ⟨z5, hc6, hf⟩ := zbd_some hf
      refine zwi (wr := [(a1 10, .inl (cy 0, 11, .inl (zA s1 10)))]) (ws' := (wd_Teller_tellBeside cy o0 a0 (zI z5.2) (zL z5.2) o1 a1 (zI s1) (zL s1) (zB s1 4) (zA s1 10) a2 (zI s2) (zL s2) (zA s2 1) (zA s2 2) (zB s2 3))) (zV (As := [.ref o1]) hx hb hml hown hT hl.1 (c_Teller_takeBeast o0 a0 z2.2 o1 a1 s1 a2 s2 hc6) zY_Teller_takeBeast tb_625 (zpRw hK hP hD [0, 1, 2, 4, 5, 6, 7] (by decide) rfl 0 8 rfl rfl rfl rfl) rm_ok_Teller_tellBeside_Teller_takeBeast rfl rfl (Nat.le_of_ble_eq_true rfl) dX8_tellBeside_30 ⟨Nat.zero_le _, Nat.zero_le _⟩) hP hD hS hA [0, 1, 2, 4, 5, 6, 7] [3] [1, 2, 3, 0, 4, 5, 6, 7] rfl rfl (by decide) (by decide) (by decide) rfl rfl (fun H locs hP hD hS => ?_)
      refine lv_istore_n (lv' := [(3, .int z5.1), (2, .int z2.1), (0, .ref o0), (1, .ref o1)]) hx hb dX8_tellBeside_33 rfl hl (by decide) rfl (fun ls hl => ?_)
      refine lv_iload_n hx hb dX8_tellBeside_34 rfl (lv_at hl 0 rfl) ?_
      refine lv_iconst (v := (-1)) hx hb dX8_tellBeside_35 (by decide) ?_
      refine lv_icmp_ne (tgt := 41) hx hb dX8_tellBeside_36 (by decide) (fun hb_7 => ?_) (fun hb_7 => ?_)
      · have hf := zif_f hb_7 hf
        refine lv_iload_n hx hb dX8_tellBeside_41 rfl (lv_at hl 1 rfl) ?_
        refine lv_iload_n hx hb dX8_tellBeside_42 rfl (lv_at hl 0 rfl) ?_
        refine lv_icmp_eq (tgt := 60) hx hb dX8_tellBeside_43 (by decide) (fun hb_8 => ?_) (fun hb_8 => ?_)
        · have hf := zif_t hb_8 hf
          exact k_Teller_tellBeside_b60 C0 z5.2 s1 s2  hA hP hD hS hf _ (lv_sub hl [2] rfl)
        · have hf := zif_f hb_8 hf
          refine lv_aload_n hx hb dX8_tellBeside_46 rfl (lv_at hl 3 rfl) ?_
          refine zget (v := .ref (a1 10)) hx hb hown hT hK hP inX9 rfl smX9 1 rfl 10 (by decide) tb_127 rfl dX8_tellBeside_47 ?_
          refine lv_iload_n hx hb dX8_tellBeside_50 rfl (lv_at hl 1 rfl) ?_
          obtain ⟨hi9, hf⟩ := zck_some hf
          refine va_iald hx hb hK.1 hP 3 0 rfl rfl hi9 dX8_tellBeside_51 ?_
          refine lv_iload_n hx hb dX8_tellBeside_52 rfl (lv_at hl 0 rfl) ?_
          refine lv_ishr hx hb dX8_tellBeside_53 ?_
          refine lv_iconst (v := 1) hx hb dX8_tellBeside_54 (by decide) ?_
          refine lv_iand hx hb dX8_tellBeside_55 ?_
          refine lv_iconst (v := 1) hx hb dX8_tellBeside_56 (by decide) ?_
          refine lv_icmp_ne (tgt := 66) hx hb dX8_tellBeside_57 (by decide) (fun hb_10 => ?_) (fun hb_10 => ?_)
          · have hf := zif_f hb_10 hf
            refine lv_aload_n hx hb dX8_tellBeside_66 rfl (lv_at hl 2 rfl) ?_
            refine lv_iconst (v := 4) hx hb dX8_tellBeside_67 (by decide) ?_
            obtain ⟨z11, hc12, hf⟩ := zbd_some hf
            refine zwi (wr := [(o1, .inr (9, fs_Valley a1 (zI s1) (zL s1))), (a1 4, .inl (cy 1, 11, .inr (.inl (zB s1 4)))), (a1 10, .inl (cy 0, 11, .inl (zA s1 10)))]) (ws' := (wd_Teller_tellBeside cy o0 a0 (zI z11.2) (zL z11.2) o1 a1 (zI s1) (zL s1) (zB s1 4) (zA s1 10) a2 (zI s2) (zL s2) (zA s2 1) (zA s2 2) (zB s2 3))) (zV (As := [.int 4]) hx hb hml hown hT hl.1 (c_Teller_take o0 a0 z5.2 a2 s2 4 hc12) zY_Teller_take tb_550 (zpRw hK hP hD [0, 4, 5, 6, 7] (by decide) rfl 0 8 rfl rfl rfl rfl) rm_ok_Teller_tellBeside_Teller_take rfl rfl (Nat.le_of_ble_eq_true rfl) dX8_tellBeside_68 ⟨Nat.zero_le _, Nat.zero_le _⟩) hP hD hS hA [0, 4, 5, 6, 7] [1, 2, 3] [3, 0, 1, 2, 4, 5, 6, 7] rfl rfl (by decide) (by decide) (by decide) rfl rfl (fun H locs hP hD hS => ?_)
            refine lv_if_ne (tgt := 76) hx hb dX8_tellBeside_71 (by decide) (fun hb_13 => ?_) (fun hb_13 => ?_)
            · have hf := zif_f hb_13 hf
              refine lv_aload_n hx hb dX8_tellBeside_76 rfl (lv_at hl 3 rfl) ?_
              refine lv_iload_n hx hb dX8_tellBeside_77 rfl (lv_at hl 1 rfl) ?_
              refine lv_iload_n hx hb dX8_tellBeside_78 rfl (lv_at hl 0 rfl) ?_
              obtain ⟨z14, hc15, hf⟩ := zbd_some hf
              refine zwv (wr := [(o0, .inr (8, fs_Teller a0 (zI z11.2) (zL z11.2))), (a1 4, .inl (cy 1, 11, .inr (.inl (zB s1 4)))), ((a0 2), .inr (6, fs_Reader a2 (zI s2) (zL s2))), (a2 1, .inl (cy 0, 205, .inl (zA s2 1))), (a2 2, .inl (cy 0, 205, .inl (zA s2 2))), (a2 3, .inl (cy 1, 205, .inr (.inl (zB s2 3))))]) (ws' := (wd_Teller_tellBeside cy o0 a0 (zI z11.2) (zL z11.2) o1 a1 (zI z14) (zL z14) (zB s1 4) (zA z14 10) a2 (zI s2) (zL s2) (zA s2 1) (zA s2 2) (zB s2 3))) (zV (As := [.int z2.1, .int z5.1]) hx hb hml hown hT hl.1 (c_Valley_addBeside o1 a1 s1 z2.1 z5.1 hc15) zY_Valley_addBeside tb_633 (zpRw hK hP hD [1, 3] (by decide) rfl 0 9 rfl rfl rfl rfl) rm_ok_Teller_tellBeside_Valley_addBeside rfl rfl (Nat.le_of_ble_eq_true rfl) dX8_tellBeside_79 ⟨Nat.zero_le _, Nat.zero_le _⟩) hP hD hS hA [1, 3] [0, 2, 4, 5, 6, 7] [0, 6, 1, 7, 2, 3, 4, 5] rfl rfl (by decide) (by decide) (by decide) rfl rfl (fun H locs hP hD hS => ?_)
              refine lv_iconst (v := 1) hx hb dX8_tellBeside_82 (by decide) ?_
              cases hf
              exact zewz hx hb hr hk (Or.inr rfl) hK hP hD hS dX8_tellBeside_83
            · have hf := zif_t hb_13 hf
              refine lv_iconst (v := 0) hx hb dX8_tellBeside_74 (by decide) ?_
              cases hf
              exact zewz hx hb hr hk (Or.inl rfl) hK hP hD hS dX8_tellBeside_75
          · have hf := zif_t hb_10 hf
            exact k_Teller_tellBeside_b60 C0 z5.2 s1 s2  hA hP hD hS hf _ (lv_sub hl [2] rfl)
      · have hf := zif_t hb_7 hf
        refine lv_iconst (v := 0) hx hb dX8_tellBeside_39 (by decide) ?_
        cases hf
        exact zewz hx hb hr hk (Or.inl rfl) hK hP hD hS dX8_tellBeside_40
    · have hf := zif_t hb_4 hf
      refine lv_iconst (v := 0) hx hb dX8_tellBeside_26 (by decide) ?_
      cases hf
      exact zewz hx hb hr hk (Or.inl rfl) hK hP hD hS dX8_tellBeside_27
  · have hf := zif_f hb_1 hf
    refine lv_aload_n hx hb dX8_tellBeside_9 rfl (lv_at hl 0 rfl) ?_
    refine lv_iconst (v := 2) hx hb dX8_tellBeside_10 (by decide) ?_
    obtain ⟨z16, hc17, hf⟩ := zbd_some hf
    refine zwi (wr := [(o1, .inr (9, fs_Valley a1 (zI s1) (zL s1))), (a1 4, .inl (cy 1, 11, .inr (.inl (zB s1 4)))), (a1 10, .inl (cy 0, 11, .inl (zA s1 10))), ((a0 2), .inr (6, fs_Reader a2 (zI s2) (zL s2))), (a2 1, .inl (cy 0, 205, .inl (zA s2 1))), (a2 2, .inl (cy 0, 205, .inl (zA s2 2))), (a2 3, .inl (cy 1, 205, .inr (.inl (zB s2 3))))]) (ws' := (wd_Teller_tellBeside cy o0 a0 (zI z16.2) (zL z16.2) o1 a1 (zI s1) (zL s1) (zB s1 4) (zA s1 10) a2 (zI s2) (zL s2) (zA s2 1) (zA s2 2) (zB s2 3))) (zV (As := [.int 2]) hx hb hml hown hT hl.1 (c_Teller_refuse o0 a0 s0 2 hc17) zY_Teller_refuse tb_554 (zpRw hK hP hD [0] (by decide) rfl 0 8 rfl rfl rfl rfl) rm_ok_Teller_tellBeside_Teller_refuse rfl rfl (Nat.le_of_ble_eq_true rfl) dX8_tellBeside_11 ⟨Nat.zero_le _, Nat.zero_le _⟩) hP hD hS hA [0] [1, 2, 3, 4, 5, 6, 7] [7, 0, 1, 2, 3, 4, 5, 6] rfl rfl (by decide) (by decide) (by decide) rfl rfl (fun H locs hP hD hS => ?_)
    obtain ⟨hq18, hf⟩ := zcb_some hf
    cases hf
    exact zewz hx hb hr hk hq18 hK hP hD hS dX8_tellBeside_14
set_option maxHeartbeats 4000000 in
set_option maxRecDepth 100000 in
theorem c_Teller_tellBeside {l : Launch} {dC : Nat → ClassId} {dI : Nat → Nat → Nat} {cy : Nat → ClassId} {sz : Nat} {N : Nat} (o0 : Nat) (a0 : Nat → Nat) (s0 : zSt) (o1 : Nat) (a1 : Nat → Nat) (s1 : zSt) (a2 : Nat → Nat) (s2 : zSt) {y : Int32 × zSt × zSt} (hf : Teller_tellBeside N s0 s1 s2 = some y) : Met l yX8_tellBeside (.code yX8_tellBeside cX8_tellBeside 4 (some .boolean) :: zt) rm_Teller_tellBeside (va_Pc [.ref o0, .ref o1] (zPre (dC, dI) cy (wd_Teller_tellBeside cy o0 a0 (zI s0) (zL s0) o1 a1 (zI s1) (zL s1) (zB s1 4) (zA s1 10) a2 (zI s2) (zL s2) (zA s2 1) (zA s2 2) (zB s2 3)) sz)) (zQi y.1 (dC, dI) cy (wd_Teller_tellBeside cy o0 a0 (zI y.2.1) (zL y.2.1) o1 a1 (zI y.2.2) (zL y.2.2) (zB y.2.2 4) (zA y.2.2 10) a2 (zI s2) (zL s2) (zA s2 1) (zA s2 2) (zB s2 3)) (va_A (wd_Teller_tellBeside cy o0 a0 (zI s0) (zL s0) o1 a1 (zI s1) (zL s1) (zB s1 4) (zA s1 10) a2 (zI s2) (zL s2) (zA s2 1) (zA s2 2) (zB s2 3)) sz)) 0 0 (va_A (wd_Teller_tellBeside cy o0 a0 (zI s0) (zL s0) o1 a1 (zI s1) (zL s1) (zB s1 4) (zA s1 10) a2 (zI s2) (zL s2) (zA s2 1) (zA s2 2) (zB s2 3)) sz) :=
  zentW (Qw := fun A => (zQi y.1 (dC, dI) cy (wd_Teller_tellBeside cy o0 a0 (zI y.2.1) (zL y.2.1) o1 a1 (zI y.2.2) (zL y.2.2) (zB y.2.2 4) (zA y.2.2 10) a2 (zI s2) (zL s2) (zA s2 1) (zA s2 2) (zB s2 3)) A)) (by decide +kernel) (Nat.le_of_ble_eq_true rfl) (fun p e s m below meth c A C0 hA hP hD hS ls hl => k_Teller_tellBeside_b0 C0 s0 s1 s2 hA hP hD hS hf ls hl)
def wd_Teller_tellLine (cy : Nat → ClassId) (o0 : Nat) (a0 : Nat → Nat) (g0 : Nat → Int32) (h0 : Nat → Int64) (o1 : Nat) (a1 : Nat → Nat) (g1 : Nat → Int32) (h1 : Nat → Int64) (x1_1 : Nat → Int64) (x1_2 : Nat → Int32) (x1_4 : Nat → Int64) (x1_5 : Nat → Int32) (x1_6 : Nat → Int32) (x1_7 : Nat → Int32) (x1_10 : Nat → Int32) (x1_13 : Nat → Int64) (x1_14 : Nat → Int32) (a2 : Nat → Nat) (g2 : Nat → Int32) (h2 : Nat → Int64) (x2_1 : Nat → Int32) (x2_2 : Nat → Int32) (x2_3 : Nat → Int64) : va_W := [(o0, .inr (8, fs_Teller a0 g0 h0)), (o1, .inr (9, fs_Valley a1 g1 h1)), (a1 1, .inl (cy 1, 3, .inr (.inl x1_1))), (a1 2, .inl (cy 0, 3, .inl x1_2)), (a1 4, .inl (cy 1, 11, .inr (.inl x1_4))), (a1 5, .inl (cy 0, 11, .inl x1_5)), (a1 6, .inl (cy 0, 11, .inl x1_6)), (a1 7, .inl (cy 0, 11, .inl x1_7)), (a1 10, .inl (cy 0, 11, .inl x1_10)), (a1 13, .inl (cy 1, 4, .inr (.inl x1_13))), (a1 14, .inl (cy 0, 4, .inl x1_14)), ((a0 2), .inr (6, fs_Reader a2 g2 h2)), (a2 1, .inl (cy 0, 205, .inl x2_1)), (a2 2, .inl (cy 0, 205, .inl x2_2)), (a2 3, .inl (cy 1, 205, .inr (.inl x2_3)))]
def rm_Teller_tellLine : Room := { frames := 6, cells := 0, slots := 0, locals := 155 }
theorem rm_ok_Teller_tellLine_Teller_refuse : rm_Teller_refuse.cells = 0 ∧ rm_Teller_refuse.slots = 0 ∧ rm_Teller_refuse.frames + 1 ≤ rm_Teller_tellLine.frames ∧ 8 + (2 + 11) + rm_Teller_refuse.locals ≤ rm_Teller_tellLine.locals := by decide
theorem rm_ok_Teller_tellLine_Teller_take : rm_Teller_take.cells = 0 ∧ rm_Teller_take.slots = 0 ∧ rm_Teller_take.frames + 1 ≤ rm_Teller_tellLine.frames ∧ 8 + (3 + 11) + rm_Teller_take.locals ≤ rm_Teller_tellLine.locals := by decide
theorem rm_ok_Teller_tellLine_Teller_tellBeast : rm_Teller_tellBeast.cells = 0 ∧ rm_Teller_tellBeast.slots = 0 ∧ rm_Teller_tellBeast.frames + 1 ≤ rm_Teller_tellLine.frames ∧ 8 + (5 + 11) + rm_Teller_tellBeast.locals ≤ rm_Teller_tellLine.locals := by decide
theorem rm_ok_Teller_tellLine_Teller_tellBeside : rm_Teller_tellBeside.cells = 0 ∧ rm_Teller_tellBeside.slots = 0 ∧ rm_Teller_tellBeside.frames + 1 ≤ rm_Teller_tellLine.frames ∧ 8 + (4 + 11) + rm_Teller_tellBeside.locals ≤ rm_Teller_tellLine.locals := by decide
theorem rm_ok_Teller_tellLine_Teller_tellEar : rm_Teller_tellEar.cells = 0 ∧ rm_Teller_tellEar.slots = 0 ∧ rm_Teller_tellEar.frames + 1 ≤ rm_Teller_tellLine.frames ∧ 8 + (5 + 11) + rm_Teller_tellEar.locals ≤ rm_Teller_tellLine.locals := by decide
theorem rm_ok_Teller_tellLine_Teller_tellHerd : rm_Teller_tellHerd.cells = 0 ∧ rm_Teller_tellHerd.slots = 0 ∧ rm_Teller_tellHerd.frames + 1 ≤ rm_Teller_tellLine.frames ∧ 8 + (4 + 11) + rm_Teller_tellHerd.locals ≤ rm_Teller_tellLine.locals := by decide
theorem rm_ok_Teller_tellLine_Teller_tellStranger : rm_Teller_tellStranger.cells = 0 ∧ rm_Teller_tellStranger.slots = 0 ∧ rm_Teller_tellStranger.frames + 1 ≤ rm_Teller_tellLine.frames ∧ 8 + (2 + 11) + rm_Teller_tellStranger.locals ≤ rm_Teller_tellLine.locals := by decide
set_option maxHeartbeats 4000000 in
set_option maxRecDepth 100000 in
theorem k_Teller_tellLine_b0 {p : Program} {l : Launch} {e : Env} {s : State} {m : MethodId} {args : Array Value} {below : List Frame} {meth : Method} {c : Code} {dC : Nat → ClassId} {dI : Nat → Nat → Nat} {cy : Nat → ClassId} {A : Nat → Prop} {o0 : Nat} {a0 : Nat → Nat} {o1 : Nat} {a1 : Nat → Nat} {a2 : Nat → Nat} {N : Nat} {y : Int32 × zSt × zSt} (C0 : zCx p s m args meth c cX8_tellLine 2 (some .boolean) RX8 (dC, dI) cy) (s0 : zSt) (s1 : zSt) (s2 : zSt) (hA : ∀ q, s.heap.size ≤ q → A q) {H : Heap} {locs : List Loc} (hP : va_P (dC, dI) vwCl (wd_Teller_tellLine cy o0 a0 (zI s0) (zL s0) o1 a1 (zI s1) (zL s1) (zB s1 1) (zA s1 2) (zB s1 4) (zA s1 5) (zA s1 6) (zA s1 7) (zA s1 10) (zB s1 13) (zA s1 14) a2 (zI s2) (zL s2) (zA s2 1) (zA s2 2) (zB s2 3)) H) (hD : va_D A (wd_Teller_tellLine cy o0 a0 (zI s0) (zL s0) o1 a1 (zI s1) (zL s1) (zB s1 1) (zA s1 2) (zB s1 4) (zA s1 5) (zA s1 6) (zA s1 7) (zA s1 10) (zB s1 13) (zA s1 14) a2 (zI s2) (zL s2) (zA s2 1) (zA s2 2) (zB s2 3))) (hS : va_S A s.heap H locs) (hf : Teller_tellLine_b0 N s0 s1 s2 = some y) (ls : Array Slot) (hl : lv_has ls 2 [(0, .ref o0), (1, .ref o1)]) : W p l e rm_Teller_tellLine s m args below meth c H locs 0 0 (MQ below (zQi y.1 (dC, dI) cy (wd_Teller_tellLine cy o0 a0 (zI y.2.1) (zL y.2.1) o1 a1 (zI y.2.2) (zL y.2.2) (zB y.2.2 1) (zA y.2.2 2) (zB y.2.2 4) (zA y.2.2 5) (zA y.2.2 6) (zA y.2.2 7) (zA y.2.2 10) (zB y.2.2 13) (zA y.2.2 14) a2 (zI s2) (zL s2) (zA s2 1) (zA s2 2) (zB s2 3)) A) args s 0 0 A) (F0 m 0 ls []) := by
  obtain ⟨hx, hb, hr, hml, hown, hT, hk, hK⟩ := id C0
  refine lv_aload_n hx hb dX8_tellLine_0 rfl (lv_at hl 0 rfl) ?_
  refine lv_iconst (v := 2) hx hb dX8_tellLine_1 (by decide) ?_
  obtain ⟨z1, hc2, hf⟩ := zbd_some hf
  refine zwi (wr := [(o1, .inr (9, fs_Valley a1 (zI s1) (zL s1))), (a1 1, .inl (cy 1, 3, .inr (.inl (zB s1 1)))), (a1 2, .inl (cy 0, 3, .inl (zA s1 2))), (a1 4, .inl (cy 1, 11, .inr (.inl (zB s1 4)))), (a1 5, .inl (cy 0, 11, .inl (zA s1 5))), (a1 6, .inl (cy 0, 11, .inl (zA s1 6))), (a1 7, .inl (cy 0, 11, .inl (zA s1 7))), (a1 10, .inl (cy 0, 11, .inl (zA s1 10))), (a1 13, .inl (cy 1, 4, .inr (.inl (zB s1 13)))), (a1 14, .inl (cy 0, 4, .inl (zA s1 14)))]) (ws' := (wd_Teller_tellLine cy o0 a0 (zI z1.2) (zL z1.2) o1 a1 (zI s1) (zL s1) (zB s1 1) (zA s1 2) (zB s1 4) (zA s1 5) (zA s1 6) (zA s1 7) (zA s1 10) (zB s1 13) (zA s1 14) a2 (zI s2) (zL s2) (zA s2 1) (zA s2 2) (zB s2 3))) (zV (As := [.int 2]) hx hb hml hown hT hl.1 (c_Teller_take o0 a0 s0 a2 s2 2 hc2) zY_Teller_take tb_550 (zpRw hK hP hD [0, 11, 12, 13, 14] (by decide) rfl 0 8 rfl rfl rfl rfl) rm_ok_Teller_tellLine_Teller_take rfl rfl (Nat.le_of_ble_eq_true rfl) dX8_tellLine_2 ⟨Nat.zero_le _, Nat.zero_le _⟩) hP hD hS hA [0, 11, 12, 13, 14] [1, 2, 3, 4, 5, 6, 7, 8, 9, 10] [10, 0, 1, 2, 3, 4, 5, 6, 7, 8, 9, 11, 12, 13, 14] rfl rfl (by decide) (by decide) (by decide) rfl rfl (fun H locs hP hD hS => ?_)
  refine lv_if_ne (tgt := 10) hx hb dX8_tellLine_5 (by decide) (fun hb_3 => ?_) (fun hb_3 => ?_)
  · have hf := zif_f hb_3 hf
    refine lv_aload_n hx hb dX8_tellLine_10 rfl (lv_at hl 0 rfl) ?_
    refine zget (v := .long (zL z1.2 5)) hx hb hown hT hK hP inX8 rfl smX8 0 rfl 5 (by decide) tb_73 rfl dX8_tellLine_11 ?_
    refine lv_ldc2 (v := 1751478884) hx hb hown (hT _ tb_558) dX8_tellLine_14 ?_
    refine W.lcmp hx hb dX8_tellLine_17 ?_
    refine lv_if_ne (tgt := 27) hx hb dX8_tellLine_18 (by decide) (fun hb_4 => ?_) (fun hb_4 => ?_)
    · have hf := zif_f hb_4 hf
      refine lv_aload_n hx hb dX8_tellLine_27 rfl (lv_at hl 0 rfl) ?_
      refine zget (v := .long (zL z1.2 5)) hx hb hown hT hK hP inX8 rfl smX8 0 rfl 5 (by decide) tb_73 rfl dX8_tellLine_28 ?_
      refine lv_ldc2 (v := 422607680372) hx hb hown (hT _ tb_574) dX8_tellLine_31 ?_
      refine W.lcmp hx hb dX8_tellLine_34 ?_
      refine lv_if_ne (tgt := 44) hx hb dX8_tellLine_35 (by decide) (fun hb_5 => ?_) (fun hb_5 => ?_)
      · have hf := zif_f hb_5 hf
        refine lv_aload_n hx hb dX8_tellLine_44 rfl (lv_at hl 0 rfl) ?_
        refine zget (v := .long (zL z1.2 5)) hx hb hown hT hK hP inX8 rfl smX8 0 rfl 5 (by decide) tb_73 rfl dX8_tellLine_45 ?_
        refine lv_ldc2 (v := 8319400174449812850) hx hb hown (hT _ tb_578) dX8_tellLine_48 ?_
        refine W.lcmp hx hb dX8_tellLine_51 ?_
        refine lv_if_ne (tgt := 61) hx hb dX8_tellLine_52 (by decide) (fun hb_6 => ?_) (fun hb_6 => ?_)
        · have hf := zif_f hb_6 hf
          refine lv_aload_n hx hb dX8_tellLine_61 rfl (lv_at hl 0 rfl) ?_
          refine zget (v := .long (zL z1.2 5)) hx hb hown hT hK hP inX8 rfl smX8 0 rfl 5 (by decide) tb_73 rfl dX8_tellLine_62 ?_
          refine lv_ldc2 (v := 6644082) hx hb hown (hT _ tb_579) dX8_tellLine_65 ?_
          refine W.lcmp hx hb dX8_tellLine_68 ?_
          refine lv_if_ne (tgt := 78) hx hb dX8_tellLine_69 (by decide) (fun hb_7 => ?_) (fun hb_7 => ?_)
          · have hf := zif_f hb_7 hf
            refine lv_aload_n hx hb dX8_tellLine_78 rfl (lv_at hl 0 rfl) ?_
            refine zget (v := .long (zL z1.2 5)) hx hb hown hT hK hP inX8 rfl smX8 0 rfl 5 (by decide) tb_73 rfl dX8_tellLine_79 ?_
            refine lv_ldc2 (v := 108187867505765) hx hb hown (hT _ tb_581) dX8_tellLine_82 ?_
            refine W.lcmp hx hb dX8_tellLine_85 ?_
            refine lv_if_ne (tgt := 95) hx hb dX8_tellLine_86 (by decide) (fun hb_8 => ?_) (fun hb_8 => ?_)
            · have hf := zif_f hb_8 hf
              refine lv_aload_n hx hb dX8_tellLine_95 rfl (lv_at hl 0 rfl) ?_
              refine lv_iconst (v := 2) hx hb dX8_tellLine_96 (by decide) ?_
              obtain ⟨z9, hc10, hf⟩ := zbd_some hf
              refine zwi (wr := [(o1, .inr (9, fs_Valley a1 (zI s1) (zL s1))), (a1 1, .inl (cy 1, 3, .inr (.inl (zB s1 1)))), (a1 2, .inl (cy 0, 3, .inl (zA s1 2))), (a1 4, .inl (cy 1, 11, .inr (.inl (zB s1 4)))), (a1 5, .inl (cy 0, 11, .inl (zA s1 5))), (a1 6, .inl (cy 0, 11, .inl (zA s1 6))), (a1 7, .inl (cy 0, 11, .inl (zA s1 7))), (a1 10, .inl (cy 0, 11, .inl (zA s1 10))), (a1 13, .inl (cy 1, 4, .inr (.inl (zB s1 13)))), (a1 14, .inl (cy 0, 4, .inl (zA s1 14))), ((a0 2), .inr (6, fs_Reader a2 (zI s2) (zL s2))), (a2 1, .inl (cy 0, 205, .inl (zA s2 1))), (a2 2, .inl (cy 0, 205, .inl (zA s2 2))), (a2 3, .inl (cy 1, 205, .inr (.inl (zB s2 3))))]) (ws' := (wd_Teller_tellLine cy o0 a0 (zI z9.2) (zL z9.2) o1 a1 (zI s1) (zL s1) (zB s1 1) (zA s1 2) (zB s1 4) (zA s1 5) (zA s1 6) (zA s1 7) (zA s1 10) (zB s1 13) (zA s1 14) a2 (zI s2) (zL s2) (zA s2 1) (zA s2 2) (zB s2 3))) (zV (As := [.int 2]) hx hb hml hown hT hl.1 (c_Teller_refuse o0 a0 z1.2 2 hc10) zY_Teller_refuse tb_554 (zpRw hK hP hD [0] (by decide) rfl 0 8 rfl rfl rfl rfl) rm_ok_Teller_tellLine_Teller_refuse rfl rfl (Nat.le_of_ble_eq_true rfl) dX8_tellLine_97 ⟨Nat.zero_le _, Nat.zero_le _⟩) hP hD hS hA [0] [1, 2, 3, 4, 5, 6, 7, 8, 9, 10, 11, 12, 13, 14] [14, 0, 1, 2, 3, 4, 5, 6, 7, 8, 9, 10, 11, 12, 13] rfl rfl (by decide) (by decide) (by decide) rfl rfl (fun H locs hP hD hS => ?_)
              obtain ⟨hq11, hf⟩ := zcb_some hf
              cases hf
              exact zewz hx hb hr hk hq11 hK hP hD hS dX8_tellLine_100
            · have hf := zif_t hb_8 hf
              refine lv_aload_n hx hb dX8_tellLine_89 rfl (lv_at hl 0 rfl) ?_
              refine lv_aload_n hx hb dX8_tellLine_90 rfl (lv_at hl 1 rfl) ?_
              obtain ⟨z12, hc13, hf⟩ := zbd_some hf
              refine zwi (wr := [(a1 1, .inl (cy 1, 3, .inr (.inl (zB s1 1)))), (a1 2, .inl (cy 0, 3, .inl (zA s1 2))), (a1 5, .inl (cy 0, 11, .inl (zA s1 5))), (a1 6, .inl (cy 0, 11, .inl (zA s1 6))), (a1 7, .inl (cy 0, 11, .inl (zA s1 7))), (a1 13, .inl (cy 1, 4, .inr (.inl (zB s1 13)))), (a1 14, .inl (cy 0, 4, .inl (zA s1 14)))]) (ws' := (wd_Teller_tellLine cy o0 a0 (zI z12.2.1) (zL z12.2.1) o1 a1 (zI z12.2.2) (zL z12.2.2) (zB s1 1) (zA s1 2) (zB z12.2.2 4) (zA s1 5) (zA s1 6) (zA s1 7) (zA z12.2.2 10) (zB s1 13) (zA s1 14) a2 (zI s2) (zL s2) (zA s2 1) (zA s2 2) (zB s2 3))) (zV (As := [.ref o1]) hx hb hml hown hT hl.1 (c_Teller_tellBeside o0 a0 z1.2 o1 a1 s1 a2 s2 hc13) zY_Teller_tellBeside tb_621 (zpRw hK hP hD [0, 1, 4, 8, 11, 12, 13, 14] (by decide) rfl 0 8 rfl rfl rfl rfl) rm_ok_Teller_tellLine_Teller_tellBeside rfl rfl (Nat.le_of_ble_eq_true rfl) dX8_tellLine_91 ⟨Nat.zero_le _, Nat.zero_le _⟩) hP hD hS hA [0, 1, 4, 8, 11, 12, 13, 14] [2, 3, 5, 6, 7, 9, 10] [7, 8, 0, 1, 9, 2, 3, 4, 10, 5, 6, 11, 12, 13, 14] rfl rfl (by decide) (by decide) (by decide) rfl rfl (fun H locs hP hD hS => ?_)
              obtain ⟨hq14, hf⟩ := zcb_some hf
              cases hf
              exact zewz hx hb hr hk hq14 hK hP hD hS dX8_tellLine_94
          · have hf := zif_t hb_7 hf
            refine lv_aload_n hx hb dX8_tellLine_72 rfl (lv_at hl 0 rfl) ?_
            refine lv_aload_n hx hb dX8_tellLine_73 rfl (lv_at hl 1 rfl) ?_
            obtain ⟨z15, hc16, hf⟩ := zbd_some hf
            refine zwi (wr := [(a1 1, .inl (cy 1, 3, .inr (.inl (zB s1 1)))), (a1 2, .inl (cy 0, 3, .inl (zA s1 2))), (a1 4, .inl (cy 1, 11, .inr (.inl (zB s1 4)))), (a1 5, .inl (cy 0, 11, .inl (zA s1 5))), (a1 6, .inl (cy 0, 11, .inl (zA s1 6))), (a1 7, .inl (cy 0, 11, .inl (zA s1 7))), (a1 10, .inl (cy 0, 11, .inl (zA s1 10)))]) (ws' := (wd_Teller_tellLine cy o0 a0 (zI z15.2.1) (zL z15.2.1) o1 a1 (zI z15.2.2) (zL z15.2.2) (zB s1 1) (zA s1 2) (zB s1 4) (zA s1 5) (zA s1 6) (zA s1 7) (zA s1 10) (zB z15.2.2 13) (zA z15.2.2 14) a2 (zI s2) (zL s2) (zA s2 1) (zA s2 2) (zB s2 3))) (zV (As := [.ref o1]) hx hb hml hown hT hl.1 (c_Teller_tellEar o0 a0 z1.2 o1 a1 s1 a2 s2 hc16) zY_Teller_tellEar tb_613 (zpRw hK hP hD [0, 1, 9, 10, 11, 12, 13, 14] (by decide) rfl 0 8 rfl rfl rfl rfl) rm_ok_Teller_tellLine_Teller_tellEar rfl rfl (Nat.le_of_ble_eq_true rfl) dX8_tellLine_74 ⟨Nat.zero_le _, Nat.zero_le _⟩) hP hD hS hA [0, 1, 9, 10, 11, 12, 13, 14] [2, 3, 4, 5, 6, 7, 8] [7, 8, 0, 1, 2, 3, 4, 5, 6, 9, 10, 11, 12, 13, 14] rfl rfl (by decide) (by decide) (by decide) rfl rfl (fun H locs hP hD hS => ?_)
            obtain ⟨hq17, hf⟩ := zcb_some hf
            cases hf
            exact zewz hx hb hr hk hq17 hK hP hD hS dX8_tellLine_77
        · have hf := zif_t hb_6 hf
          refine lv_aload_n hx hb dX8_tellLine_55 rfl (lv_at hl 0 rfl) ?_
          refine lv_aload_n hx hb dX8_tellLine_56 rfl (lv_at hl 1 rfl) ?_
          obtain ⟨z18, hc19, hf⟩ := zbd_some hf
          refine zwi (wr := [(a1 1, .inl (cy 1, 3, .inr (.inl (zB s1 1)))), (a1 13, .inl (cy 1, 4, .inr (.inl (zB s1 13)))), (a1 14, .inl (cy 0, 4, .inl (zA s1 14)))]) (ws' := (wd_Teller_tellLine cy o0 a0 (zI z18.2.1) (zL z18.2.1) o1 a1 (zI z18.2.2) (zL z18.2.2) (zB s1 1) (zA z18.2.2 2) (zB z18.2.2 4) (zA z18.2.2 5) (zA z18.2.2 6) (zA z18.2.2 7) (zA z18.2.2 10) (zB s1 13) (zA s1 14) a2 (zI s2) (zL s2) (zA s2 1) (zA s2 2) (zB s2 3))) (zV (As := [.ref o1]) hx hb hml hown hT hl.1 (c_Teller_tellStranger o0 a0 z1.2 o1 a1 s1 a2 s2 hc19) zY_Teller_tellStranger tb_609 (zpRw hK hP hD [0, 1, 3, 4, 5, 6, 7, 8, 11, 12, 13, 14] (by decide) rfl 0 8 rfl rfl rfl rfl) rm_ok_Teller_tellLine_Teller_tellStranger rfl rfl (Nat.le_of_ble_eq_true rfl) dX8_tellLine_57 ⟨Nat.zero_le _, Nat.zero_le _⟩) hP hD hS hA [0, 1, 3, 4, 5, 6, 7, 8, 11, 12, 13, 14] [2, 9, 10] [3, 4, 0, 5, 6, 7, 8, 9, 10, 1, 2, 11, 12, 13, 14] rfl rfl (by decide) (by decide) (by decide) rfl rfl (fun H locs hP hD hS => ?_)
          obtain ⟨hq20, hf⟩ := zcb_some hf
          cases hf
          exact zewz hx hb hr hk hq20 hK hP hD hS dX8_tellLine_60
      · have hf := zif_t hb_5 hf
        refine lv_aload_n hx hb dX8_tellLine_38 rfl (lv_at hl 0 rfl) ?_
        refine lv_aload_n hx hb dX8_tellLine_39 rfl (lv_at hl 1 rfl) ?_
        obtain ⟨z21, hc22, hf⟩ := zbd_some hf
        refine zwi (wr := [(a1 13, .inl (cy 1, 4, .inr (.inl (zB s1 13)))), (a1 14, .inl (cy 0, 4, .inl (zA s1 14)))]) (ws' := (wd_Teller_tellLine cy o0 a0 (zI z21.2.1) (zL z21.2.1) o1 a1 (zI z21.2.2) (zL z21.2.2) (zB z21.2.2 1) (zA z21.2.2 2) (zB z21.2.2 4) (zA z21.2.2 5) (zA z21.2.2 6) (zA z21.2.2 7) (zA z21.2.2 10) (zB s1 13) (zA s1 14) a2 (zI s2) (zL s2) (zA s2 1) (zA s2 2) (zB s2 3))) (zV (As := [.ref o1]) hx hb hml hown hT hl.1 (c_Teller_tellBeast o0 a0 z1.2 o1 a1 s1 a2 s2 hc22) zY_Teller_tellBeast tb_589 (zpRw hK hP hD [0, 1, 2, 3, 4, 5, 6, 7, 8, 11, 12, 13, 14] (by decide) rfl 0 8 rfl rfl rfl rfl) rm_ok_Teller_tellLine_Teller_tellBeast rfl rfl (Nat.le_of_ble_eq_true rfl) dX8_tellLine_40 ⟨Nat.zero_le _, Nat.zero_le _⟩) hP hD hS hA [0, 1, 2, 3, 4, 5, 6, 7, 8, 11, 12, 13, 14] [9, 10] [2, 3, 4, 5, 6, 7, 8, 9, 10, 0, 1, 11, 12, 13, 14] rfl rfl (by decide) (by decide) (by decide) rfl rfl (fun H locs hP hD hS => ?_)
        obtain ⟨hq23, hf⟩ := zcb_some hf
        cases hf
        exact zewz hx hb hr hk hq23 hK hP hD hS dX8_tellLine_43
    · have hf := zif_t hb_4 hf
      refine lv_aload_n hx hb dX8_tellLine_21 rfl (lv_at hl 0 rfl) ?_
      refine lv_aload_n hx hb dX8_tellLine_22 rfl (lv_at hl 1 rfl) ?_
      obtain ⟨z24, hc25, hf⟩ := zbd_some hf
      refine zwi (wr := [(a1 4, .inl (cy 1, 11, .inr (.inl (zB s1 4)))), (a1 5, .inl (cy 0, 11, .inl (zA s1 5))), (a1 6, .inl (cy 0, 11, .inl (zA s1 6))), (a1 7, .inl (cy 0, 11, .inl (zA s1 7))), (a1 10, .inl (cy 0, 11, .inl (zA s1 10))), (a1 13, .inl (cy 1, 4, .inr (.inl (zB s1 13)))), (a1 14, .inl (cy 0, 4, .inl (zA s1 14)))]) (ws' := (wd_Teller_tellLine cy o0 a0 (zI z24.2.1) (zL z24.2.1) o1 a1 (zI z24.2.2) (zL z24.2.2) (zB z24.2.2 1) (zA z24.2.2 2) (zB s1 4) (zA s1 5) (zA s1 6) (zA s1 7) (zA s1 10) (zB s1 13) (zA s1 14) a2 (zI s2) (zL s2) (zA s2 1) (zA s2 2) (zB s2 3))) (zV (As := [.ref o1]) hx hb hml hown hT hl.1 (c_Teller_tellHerd o0 a0 z1.2 o1 a1 s1 a2 s2 hc25) zY_Teller_tellHerd tb_559 (zpRw hK hP hD [0, 1, 2, 3, 11, 12, 13, 14] (by decide) rfl 0 8 rfl rfl rfl rfl) rm_ok_Teller_tellLine_Teller_tellHerd rfl rfl (Nat.le_of_ble_eq_true rfl) dX8_tellLine_23 ⟨Nat.zero_le _, Nat.zero_le _⟩) hP hD hS hA [0, 1, 2, 3, 11, 12, 13, 14] [4, 5, 6, 7, 8, 9, 10] [7, 8, 9, 10, 0, 1, 2, 3, 4, 5, 6, 11, 12, 13, 14] rfl rfl (by decide) (by decide) (by decide) rfl rfl (fun H locs hP hD hS => ?_)
      obtain ⟨hq26, hf⟩ := zcb_some hf
      cases hf
      exact zewz hx hb hr hk hq26 hK hP hD hS dX8_tellLine_26
  · have hf := zif_t hb_3 hf
    refine lv_iconst (v := 0) hx hb dX8_tellLine_8 (by decide) ?_
    cases hf
    exact zewz hx hb hr hk (Or.inl rfl) hK hP hD hS dX8_tellLine_9
set_option maxHeartbeats 4000000 in
set_option maxRecDepth 100000 in
theorem c_Teller_tellLine {l : Launch} {dC : Nat → ClassId} {dI : Nat → Nat → Nat} {cy : Nat → ClassId} {sz : Nat} {N : Nat} (o0 : Nat) (a0 : Nat → Nat) (s0 : zSt) (o1 : Nat) (a1 : Nat → Nat) (s1 : zSt) (a2 : Nat → Nat) (s2 : zSt) {y : Int32 × zSt × zSt} (hf : Teller_tellLine N s0 s1 s2 = some y) : Met l yX8_tellLine (.code yX8_tellLine cX8_tellLine 2 (some .boolean) :: zt) rm_Teller_tellLine (va_Pc [.ref o0, .ref o1] (zPre (dC, dI) cy (wd_Teller_tellLine cy o0 a0 (zI s0) (zL s0) o1 a1 (zI s1) (zL s1) (zB s1 1) (zA s1 2) (zB s1 4) (zA s1 5) (zA s1 6) (zA s1 7) (zA s1 10) (zB s1 13) (zA s1 14) a2 (zI s2) (zL s2) (zA s2 1) (zA s2 2) (zB s2 3)) sz)) (zQi y.1 (dC, dI) cy (wd_Teller_tellLine cy o0 a0 (zI y.2.1) (zL y.2.1) o1 a1 (zI y.2.2) (zL y.2.2) (zB y.2.2 1) (zA y.2.2 2) (zB y.2.2 4) (zA y.2.2 5) (zA y.2.2 6) (zA y.2.2 7) (zA y.2.2 10) (zB y.2.2 13) (zA y.2.2 14) a2 (zI s2) (zL s2) (zA s2 1) (zA s2 2) (zB s2 3)) (va_A (wd_Teller_tellLine cy o0 a0 (zI s0) (zL s0) o1 a1 (zI s1) (zL s1) (zB s1 1) (zA s1 2) (zB s1 4) (zA s1 5) (zA s1 6) (zA s1 7) (zA s1 10) (zB s1 13) (zA s1 14) a2 (zI s2) (zL s2) (zA s2 1) (zA s2 2) (zB s2 3)) sz)) 0 0 (va_A (wd_Teller_tellLine cy o0 a0 (zI s0) (zL s0) o1 a1 (zI s1) (zL s1) (zB s1 1) (zA s1 2) (zB s1 4) (zA s1 5) (zA s1 6) (zA s1 7) (zA s1 10) (zB s1 13) (zA s1 14) a2 (zI s2) (zL s2) (zA s2 1) (zA s2 2) (zB s2 3)) sz) :=
  zentW (Qw := fun A => (zQi y.1 (dC, dI) cy (wd_Teller_tellLine cy o0 a0 (zI y.2.1) (zL y.2.1) o1 a1 (zI y.2.2) (zL y.2.2) (zB y.2.2 1) (zA y.2.2 2) (zB y.2.2 4) (zA y.2.2 5) (zA y.2.2 6) (zA y.2.2 7) (zA y.2.2 10) (zB y.2.2 13) (zA y.2.2 14) a2 (zI s2) (zL s2) (zA s2 1) (zA s2 2) (zB s2 3)) A)) (by decide +kernel) (Nat.le_of_ble_eq_true rfl) (fun p e s m below meth c A C0 hA hP hD hS ls hl => k_Teller_tellLine_b0 C0 s0 s1 s2 hA hP hD hS hf ls hl)
def wd_Teller_tell (cy : Nat → ClassId) (o0 : Nat) (a0 : Nat → Nat) (g0 : Nat → Int32) (h0 : Nat → Int64) (o1 : Nat) (a1 : Nat → Nat) (g1 : Nat → Int32) (h1 : Nat → Int64) (x1_1 : Nat → Int64) (x1_2 : Nat → Int32) (x1_4 : Nat → Int64) (x1_5 : Nat → Int32) (x1_6 : Nat → Int32) (x1_7 : Nat → Int32) (x1_10 : Nat → Int32) (x1_13 : Nat → Int64) (x1_14 : Nat → Int32) (a2 : Nat → Nat) (g2 : Nat → Int32) (h2 : Nat → Int64) (x2_1 : Nat → Int32) (x2_2 : Nat → Int32) (x2_3 : Nat → Int64) (f3 : Nat → Int32) : va_W := [(o0, .inr (8, fs_Teller a0 g0 h0)), (o1, .inr (9, fs_Valley a1 g1 h1)), (a1 1, .inl (cy 1, 3, .inr (.inl x1_1))), (a1 2, .inl (cy 0, 3, .inl x1_2)), (a1 4, .inl (cy 1, 11, .inr (.inl x1_4))), (a1 5, .inl (cy 0, 11, .inl x1_5)), (a1 6, .inl (cy 0, 11, .inl x1_6)), (a1 7, .inl (cy 0, 11, .inl x1_7)), (a1 10, .inl (cy 0, 11, .inl x1_10)), (a1 13, .inl (cy 1, 4, .inr (.inl x1_13))), (a1 14, .inl (cy 0, 4, .inl x1_14)), ((a0 2), .inr (6, fs_Reader a2 g2 h2)), (a2 1, .inl (cy 0, 205, .inl x2_1)), (a2 2, .inl (cy 0, 205, .inl x2_2)), (a2 3, .inl (cy 1, 205, .inr (.inl x2_3))), ((a2 4), .inl (cy 2, 1500, .inl f3))]
def rm_Teller_tell : Room := { frames := 7, cells := 0, slots := 0, locals := 176 }
theorem rm_ok_Teller_tell_Reader_read : rm_Reader_read.cells = 0 ∧ rm_Reader_read.slots = 0 ∧ rm_Reader_read.frames + 1 ≤ rm_Teller_tell.frames ∧ 8 + (3 + 11) + rm_Reader_read.locals ≤ rm_Teller_tell.locals := by decide
theorem rm_ok_Teller_tell_Teller_isAtEnd : rm_Teller_isAtEnd.cells = 0 ∧ rm_Teller_isAtEnd.slots = 0 ∧ rm_Teller_isAtEnd.frames + 1 ≤ rm_Teller_tell.frames ∧ 8 + (1 + 11) + rm_Teller_isAtEnd.locals ≤ rm_Teller_tell.locals := by decide
theorem rm_ok_Teller_tell_Teller_tellLine : rm_Teller_tellLine.cells = 0 ∧ rm_Teller_tellLine.slots = 0 ∧ rm_Teller_tellLine.frames + 1 ≤ rm_Teller_tell.frames ∧ 8 + (2 + 11) + rm_Teller_tellLine.locals ≤ rm_Teller_tell.locals := by decide
theorem rm_ok_Teller_tell_Valley_clear : rm_Valley_clear.cells = 0 ∧ rm_Valley_clear.slots = 0 ∧ rm_Valley_clear.frames + 1 ≤ rm_Teller_tell.frames ∧ 8 + (1 + 11) + rm_Valley_clear.locals ≤ rm_Teller_tell.locals := by decide
set_option maxHeartbeats 4000000 in
set_option maxRecDepth 100000 in
theorem k_Teller_tell_b29 {p : Program} {l : Launch} {e : Env} {s : State} {m : MethodId} {args : Array Value} {below : List Frame} {meth : Method} {c : Code} {dC : Nat → ClassId} {dI : Nat → Nat → Nat} {cy : Nat → ClassId} {A : Nat → Prop} {o0 : Nat} {a0 : Nat → Nat} {o1 : Nat} {a1 : Nat → Nat} {a2 : Nat → Nat} {N : Nat} {kh29 : zSt → zSt → zSt → Int32 → Option (Int32 × zSt × zSt × zSt)} {y : Int32 × zSt × zSt × zSt} (C0 : zCx p s m args meth c cX8_tell 4 (some .boolean) RX8 (dC, dI) cy) (s0 : zSt) (s1 : zSt) (s2 : zSt) (f3 : Nat → Int32) (v3 : Int32) (hk29 : ∀ (s0 : zSt) (s1 : zSt) (s2 : zSt) (v3 : Int32) {H : Heap} {locs : List Loc} (_ : va_P (dC, dI) vwCl (wd_Teller_tell cy o0 a0 (zI s0) (zL s0) o1 a1 (zI s1) (zL s1) (zB s1 1) (zA s1 2) (zB s1 4) (zA s1 5) (zA s1 6) (zA s1 7) (zA s1 10) (zB s1 13) (zA s1 14) a2 (zI s2) (zL s2) (zA s2 1) (zA s2 2) (zB s2 3) f3) H) (_ : va_D A (wd_Teller_tell cy o0 a0 (zI s0) (zL s0) o1 a1 (zI s1) (zL s1) (zB s1 1) (zA s1 2) (zB s1 4) (zA s1 5) (zA s1 6) (zA s1 7) (zA s1 10) (zB s1 13) (zA s1 14) a2 (zI s2) (zL s2) (zA s2 1) (zA s2 2) (zB s2 3) f3)) (_ : va_S A s.heap H locs) (_ : kh29 s0 s1 s2 v3 = some y) (ls : Array Slot) (_ : lv_has ls 4 [(0, .ref o0), (2, .ref o1), (3, .int v3)]), W p l e rm_Teller_tell s m args below meth c H locs 0 0 (MQ below (zQi y.1 (dC, dI) cy (wd_Teller_tell cy o0 a0 (zI y.2.1) (zL y.2.1) o1 a1 (zI y.2.2.1) (zL y.2.2.1) (zB y.2.2.1 1) (zA y.2.2.1 2) (zB y.2.2.1 4) (zA y.2.2.1 5) (zA y.2.2.1 6) (zA y.2.2.1 7) (zA y.2.2.1 10) (zB y.2.2.1 13) (zA y.2.2.1 14) a2 (zI y.2.2.2) (zL y.2.2.2) (zA y.2.2.2 1) (zA y.2.2.2 2) (zB y.2.2.2 3) f3) A) args s 0 0 A) (F0 m 29 ls [])) (hA : ∀ q, s.heap.size ≤ q → A q) {H : Heap} {locs : List Loc} (hP : va_P (dC, dI) vwCl (wd_Teller_tell cy o0 a0 (zI s0) (zL s0) o1 a1 (zI s1) (zL s1) (zB s1 1) (zA s1 2) (zB s1 4) (zA s1 5) (zA s1 6) (zA s1 7) (zA s1 10) (zB s1 13) (zA s1 14) a2 (zI s2) (zL s2) (zA s2 1) (zA s2 2) (zB s2 3) f3) H) (hD : va_D A (wd_Teller_tell cy o0 a0 (zI s0) (zL s0) o1 a1 (zI s1) (zL s1) (zB s1 1) (zA s1 2) (zB s1 4) (zA s1 5) (zA s1 6) (zA s1 7) (zA s1 10) (zB s1 13) (zA s1 14) a2 (zI s2) (zL s2) (zA s2 1) (zA s2 2) (zB s2 3) f3)) (hS : va_S A s.heap H locs) (hf : Teller_tell_b29 N kh29 s0 s1 s2 f3 v3 = some y) (ls : Array Slot) (hl : lv_has ls 4 [(0, .ref o0), (2, .ref o1), (3, .int v3)]) : W p l e rm_Teller_tell s m args below meth c H locs 0 0 (MQ below (zQi y.1 (dC, dI) cy (wd_Teller_tell cy o0 a0 (zI y.2.1) (zL y.2.1) o1 a1 (zI y.2.2.1) (zL y.2.2.1) (zB y.2.2.1 1) (zA y.2.2.1 2) (zB y.2.2.1 4) (zA y.2.2.1 5) (zA y.2.2.1 6) (zA y.2.2.1 7) (zA y.2.2.1 10) (zB y.2.2.1 13) (zA y.2.2.1 14) a2 (zI y.2.2.2) (zL y.2.2.2) (zA y.2.2.2 1) (zA y.2.2.2 2) (zB y.2.2.2 3) f3) A) args s 0 0 A) (F0 m 29 ls []) := by
  obtain ⟨hx, hb, hr, hml, hown, hT, hk, hK⟩ := id C0
  refine lv_iload_n hx hb dX8_tell_29 rfl (lv_at hl 2 rfl) ?_
  refine lv_aload_n hx hb dX8_tell_30 rfl (lv_at hl 0 rfl) ?_
  refine zget (v := .ref (a0 2)) hx hb hown hT hK hP inX8 rfl smX8 0 rfl 2 (by decide) tb_70 rfl dX8_tell_31 ?_
  refine zget (v := .int (zI s2 0)) hx hb hown hT hK hP inX6 rfl smX6 11 rfl 0 (by decide) tb_38 rfl dX8_tell_34 ?_
  refine lv_icmp_ge (tgt := 63) hx hb dX8_tell_37 (by decide) (fun hb_1 => ?_) (fun hb_1 => ?_)
  · have hf := zif_t hb_1 hf
    refine lv_iconst (v := 1) hx hb dX8_tell_63 (by decide) ?_
    cases hf
    exact zewz hx hb hr hk (Or.inr rfl) hK hP hD hS dX8_tell_64
  · have hf := zif_f hb_1 hf
    refine lv_aload_n hx hb dX8_tell_40 rfl (lv_at hl 0 rfl) ?_
    obtain ⟨z2, hc3, hf⟩ := zbd_some hf
    refine zri (zV (As := []) hx hb hml hown hT hl.1 (c_Teller_isAtEnd o0 a0 s0 a2 s2 hc3) zY_Teller_isAtEnd tb_542 (zpR hK hP [0, 11, 12] rfl 0 8 rfl rfl rfl) rm_ok_Teller_tell_Teller_isAtEnd rfl rfl (Nat.le_of_ble_eq_true rfl) dX8_tell_41 ⟨Nat.zero_le _, Nat.zero_le _⟩) ?_
    refine lv_if_ne (tgt := 63) hx hb dX8_tell_44 (by decide) (fun hb_4 => ?_) (fun hb_4 => ?_)
    · have hf := zif_f hb_4 hf
      refine lv_iconst (v := 1) hx hb dX8_tell_63 (by decide) ?_
      cases hf
      exact zewz hx hb hr hk (Or.inr rfl) hK hP hD hS dX8_tell_64
    · have hf := zif_t hb_4 hf
      refine lv_aload_n hx hb dX8_tell_47 rfl (lv_at hl 0 rfl) ?_
      refine lv_aload_n hx hb dX8_tell_48 rfl (lv_at hl 1 rfl) ?_
      obtain ⟨z5, hc6, hf⟩ := zbd_some hf
      refine zwi (wr := [((a2 4), .inl (cy 2, 1500, .inl f3))]) (ws' := (wd_Teller_tell cy o0 a0 (zI z5.2.1) (zL z5.2.1) o1 a1 (zI z5.2.2) (zL z5.2.2) (zB z5.2.2 1) (zA z5.2.2 2) (zB z5.2.2 4) (zA z5.2.2 5) (zA z5.2.2 6) (zA z5.2.2 7) (zA z5.2.2 10) (zB z5.2.2 13) (zA z5.2.2 14) a2 (zI s2) (zL s2) (zA s2 1) (zA s2 2) (zB s2 3) f3)) (zV (As := [.ref o1]) hx hb hml hown hT hl.1 (c_Teller_tellLine o0 a0 s0 o1 a1 s1 a2 s2 hc6) zY_Teller_tellLine tb_546 (zpRw hK hP hD [0, 1, 2, 3, 4, 5, 6, 7, 8, 9, 10, 11, 12, 13, 14] (by decide) rfl 0 8 rfl rfl rfl rfl) rm_ok_Teller_tell_Teller_tellLine rfl rfl (Nat.le_of_ble_eq_true rfl) dX8_tell_49 ⟨Nat.zero_le _, Nat.zero_le _⟩) hP hD hS hA [0, 1, 2, 3, 4, 5, 6, 7, 8, 9, 10, 11, 12, 13, 14] [15] [1, 2, 3, 4, 5, 6, 7, 8, 9, 10, 11, 12, 13, 14, 15, 0] rfl rfl (by decide) (by decide) (by decide) rfl rfl (fun H locs hP hD hS => ?_)
      refine lv_if_ne (tgt := 57) hx hb dX8_tell_52 (by decide) (fun hb_7 => ?_) (fun hb_7 => ?_)
      · have hf := zif_f hb_7 hf
        refine lv_iinc (v := v3 + 1) (lv' := [(3, .int (v3 + 1)), (0, .ref o0), (2, .ref o1)]) hx hb dX8_tell_57 hl (k := 2) rfl rfl (by decide) rfl (fun ls hl => ?_)
        refine lv_goto (tgt := 29) hx hb dX8_tell_60 (by decide) ?_
        exact hk29 z5.2.1 z5.2.2 s2 (v3 + 1) hP hD hS hf _ (lv_sub hl [1, 2, 0] rfl)
      · have hf := zif_t hb_7 hf
        refine lv_iconst (v := 0) hx hb dX8_tell_55 (by decide) ?_
        cases hf
        exact zewz hx hb hr hk (Or.inl rfl) hK hP hD hS dX8_tell_56
set_option maxHeartbeats 4000000 in
set_option maxRecDepth 100000 in
theorem k_Teller_tell_h29 {p : Program} {l : Launch} {e : Env} {s : State} {m : MethodId} {args : Array Value} {below : List Frame} {meth : Method} {c : Code} {dC : Nat → ClassId} {dI : Nat → Nat → Nat} {cy : Nat → ClassId} {A : Nat → Prop} {o0 : Nat} {a0 : Nat → Nat} {o1 : Nat} {a1 : Nat → Nat} {a2 : Nat → Nat} {N : Nat} {y : Int32 × zSt × zSt × zSt} (C0 : zCx p s m args meth c cX8_tell 4 (some .boolean) RX8 (dC, dI) cy) (f3 : (Nat → Int32)) (hA : ∀ q, s.heap.size ≤ q → A q) : ∀ (n : Nat) (s0 : zSt) (s1 : zSt) (s2 : zSt) (v3 : Int32) {H : Heap} {locs : List Loc} (hP : va_P (dC, dI) vwCl (wd_Teller_tell cy o0 a0 (zI s0) (zL s0) o1 a1 (zI s1) (zL s1) (zB s1 1) (zA s1 2) (zB s1 4) (zA s1 5) (zA s1 6) (zA s1 7) (zA s1 10) (zB s1 13) (zA s1 14) a2 (zI s2) (zL s2) (zA s2 1) (zA s2 2) (zB s2 3) f3) H) (hD : va_D A (wd_Teller_tell cy o0 a0 (zI s0) (zL s0) o1 a1 (zI s1) (zL s1) (zB s1 1) (zA s1 2) (zB s1 4) (zA s1 5) (zA s1 6) (zA s1 7) (zA s1 10) (zB s1 13) (zA s1 14) a2 (zI s2) (zL s2) (zA s2 1) (zA s2 2) (zB s2 3) f3)) (hS : va_S A s.heap H locs) (hf : Teller_tell_h29 N f3 n s0 s1 s2 v3 = some y) (ls : Array Slot) (hl : lv_has ls 4 [(0, .ref o0), (2, .ref o1), (3, .int v3)]), W p l e rm_Teller_tell s m args below meth c H locs 0 0 (MQ below (zQi y.1 (dC, dI) cy (wd_Teller_tell cy o0 a0 (zI y.2.1) (zL y.2.1) o1 a1 (zI y.2.2.1) (zL y.2.2.1) (zB y.2.2.1 1) (zA y.2.2.1 2) (zB y.2.2.1 4) (zA y.2.2.1 5) (zA y.2.2.1 6) (zA y.2.2.1 7) (zA y.2.2.1 10) (zB y.2.2.1 13) (zA y.2.2.1 14) a2 (zI y.2.2.2) (zL y.2.2.2) (zA y.2.2.2 1) (zA y.2.2.2 2) (zB y.2.2.2 3) f3) A) args s 0 0 A) (F0 m 29 ls []) := by
  intro n
  induction n with
  | zero => intro s0 s1 s2 v3 H locs hP hD hS hf; cases hf
  | succ n ih =>
    intro s0 s1 s2 v3 H locs hP hD hS hf ls hl
    have hf : Teller_tell_b29 N (Teller_tell_h29 N f3 n) s0 s1 s2 f3 v3 = some y := hf
    exact k_Teller_tell_b29 C0 s0 s1 s2 f3 v3 (fun s0 s1 s2 v3 _ _ hP hD hS hf ls hl => ih s0 s1 s2 v3 hP hD hS hf ls hl) hA hP hD hS hf ls hl
set_option maxHeartbeats 4000000 in
set_option maxRecDepth 100000 in
theorem k_Teller_tell_b0 {p : Program} {l : Launch} {e : Env} {s : State} {m : MethodId} {args : Array Value} {below : List Frame} {meth : Method} {c : Code} {dC : Nat → ClassId} {dI : Nat → Nat → Nat} {cy : Nat → ClassId} {A : Nat → Prop} {o0 : Nat} {a0 : Nat → Nat} {o1 : Nat} {a1 : Nat → Nat} {a2 : Nat → Nat} {N : Nat} {y : Int32 × zSt × zSt × zSt} (C0 : zCx p s m args meth c cX8_tell 4 (some .boolean) RX8 (dC, dI) cy) (s0 : zSt) (s1 : zSt) (s2 : zSt) (f3 : Nat → Int32) (v1 : Int32) (hA : ∀ q, s.heap.size ≤ q → A q) {H : Heap} {locs : List Loc} (hP : va_P (dC, dI) vwCl (wd_Teller_tell cy o0 a0 (zI s0) (zL s0) o1 a1 (zI s1) (zL s1) (zB s1 1) (zA s1 2) (zB s1 4) (zA s1 5) (zA s1 6) (zA s1 7) (zA s1 10) (zB s1 13) (zA s1 14) a2 (zI s2) (zL s2) (zA s2 1) (zA s2 2) (zB s2 3) f3) H) (hD : va_D A (wd_Teller_tell cy o0 a0 (zI s0) (zL s0) o1 a1 (zI s1) (zL s1) (zB s1 1) (zA s1 2) (zB s1 4) (zA s1 5) (zA s1 6) (zA s1 7) (zA s1 10) (zB s1 13) (zA s1 14) a2 (zI s2) (zL s2) (zA s2 1) (zA s2 2) (zB s2 3) f3)) (hS : va_S A s.heap H locs) (hf : Teller_tell_b0 N s0 s1 s2 f3 v1 = some y) (ls : Array Slot) (hl : lv_has ls 4 [(0, .ref o0), (1, .int v1), (2, .ref o1)]) : W p l e rm_Teller_tell s m args below meth c H locs 0 0 (MQ below (zQi y.1 (dC, dI) cy (wd_Teller_tell cy o0 a0 (zI y.2.1) (zL y.2.1) o1 a1 (zI y.2.2.1) (zL y.2.2.1) (zB y.2.2.1 1) (zA y.2.2.1 2) (zB y.2.2.1 4) (zA y.2.2.1 5) (zA y.2.2.1 6) (zA y.2.2.1 7) (zA y.2.2.1 10) (zB y.2.2.1 13) (zA y.2.2.1 14) a2 (zI y.2.2.2) (zL y.2.2.2) (zA y.2.2.2 1) (zA y.2.2.2 2) (zB y.2.2.2 3) f3) A) args s 0 0 A) (F0 m 0 ls []) := by
  obtain ⟨hx, hb, hr, hml, hown, hT, hk, hK⟩ := id C0
  refine lv_aload_n hx hb dX8_tell_0 rfl (lv_at hl 0 rfl) ?_
  refine lv_iconst (v := 0) hx hb dX8_tell_1 (by decide) ?_
  refine zput (fs' := fs_Teller a0 (upd (zI s0) 0 0) (zL s0)) (ws' := (wd_Teller_tell cy o0 a0 (upd (zI s0) 0 0) (zL s0) o1 a1 (zI s1) (zL s1) (zB s1 1) (zA s1 2) (zB s1 4) (zA s1 5) (zA s1 6) (zA s1 7) (zA s1 10) (zB s1 13) (zA s1 14) a2 (zI s2) (zL s2) (zA s2 1) (zA s2 2) (zB s2 3) f3)) hx hb hown hT hK hP hD hS inX8 rfl smX8 tyX8_ok nmX8 0 rfl 0 (by decide) tb_66 rfl rfl rfl (Nat.le_of_ble_eq_true rfl) rfl rfl dX8_tell_2 (fun H locs hP hD hS => ?_)
  refine lv_aload_n hx hb dX8_tell_5 rfl (lv_at hl 0 rfl) ?_
  refine lv_iconst (v := (-1)) hx hb dX8_tell_6 (by decide) ?_
  refine zput (fs' := fs_Teller a0 (upd (upd (zI s0) 0 0) 1 (-1)) (zL s0)) (ws' := (wd_Teller_tell cy o0 a0 (upd (upd (zI s0) 0 0) 1 (-1)) (zL s0) o1 a1 (zI s1) (zL s1) (zB s1 1) (zA s1 2) (zB s1 4) (zA s1 5) (zA s1 6) (zA s1 7) (zA s1 10) (zB s1 13) (zA s1 14) a2 (zI s2) (zL s2) (zA s2 1) (zA s2 2) (zB s2 3) f3)) hx hb hown hT hK hP hD hS inX8 rfl smX8 tyX8_ok nmX8 0 rfl 1 (by decide) tb_68 rfl rfl rfl (Nat.le_of_ble_eq_true rfl) rfl rfl dX8_tell_7 (fun H locs hP hD hS => ?_)
  refine lv_aload_n hx hb dX8_tell_10 rfl (lv_at hl 0 rfl) ?_
  refine lv_iconst (v := 0) hx hb dX8_tell_11 (by decide) ?_
  refine zput (fs' := fs_Teller a0 (upd (upd (upd (zI s0) 0 0) 1 (-1)) 3 0) (zL s0)) (ws' := (wd_Teller_tell cy o0 a0 (upd (upd (upd (zI s0) 0 0) 1 (-1)) 3 0) (zL s0) o1 a1 (zI s1) (zL s1) (zB s1 1) (zA s1 2) (zB s1 4) (zA s1 5) (zA s1 6) (zA s1 7) (zA s1 10) (zB s1 13) (zA s1 14) a2 (zI s2) (zL s2) (zA s2 1) (zA s2 2) (zB s2 3) f3)) hx hb hown hT hK hP hD hS inX8 rfl smX8 tyX8_ok nmX8 0 rfl 3 (by decide) tb_71 rfl rfl rfl (Nat.le_of_ble_eq_true rfl) rfl rfl dX8_tell_12 (fun H locs hP hD hS => ?_)
  refine lv_aload_n hx hb dX8_tell_15 rfl (lv_at hl 2 rfl) ?_
  obtain ⟨z1, hc2, hf⟩ := zbd_some hf
  refine zwv (wr := [(o0, .inr (8, fs_Teller a0 (upd (upd (upd (zI s0) 0 0) 1 (-1)) 3 0) (zL s0))), (a1 1, .inl (cy 1, 3, .inr (.inl (zB s1 1)))), (a1 2, .inl (cy 0, 3, .inl (zA s1 2))), (a1 4, .inl (cy 1, 11, .inr (.inl (zB s1 4)))), (a1 5, .inl (cy 0, 11, .inl (zA s1 5))), (a1 6, .inl (cy 0, 11, .inl (zA s1 6))), (a1 7, .inl (cy 0, 11, .inl (zA s1 7))), (a1 10, .inl (cy 0, 11, .inl (zA s1 10))), (a1 13, .inl (cy 1, 4, .inr (.inl (zB s1 13)))), (a1 14, .inl (cy 0, 4, .inl (zA s1 14))), ((a0 2), .inr (6, fs_Reader a2 (zI s2) (zL s2))), (a2 1, .inl (cy 0, 205, .inl (zA s2 1))), (a2 2, .inl (cy 0, 205, .inl (zA s2 2))), (a2 3, .inl (cy 1, 205, .inr (.inl (zB s2 3)))), ((a2 4), .inl (cy 2, 1500, .inl f3))]) (ws' := (wd_Teller_tell cy o0 a0 (upd (upd (upd (zI s0) 0 0) 1 (-1)) 3 0) (zL s0) o1 a1 (zI z1) (zL z1) (zB s1 1) (zA s1 2) (zB s1 4) (zA s1 5) (zA s1 6) (zA s1 7) (zA s1 10) (zB s1 13) (zA s1 14) a2 (zI s2) (zL s2) (zA s2 1) (zA s2 2) (zB s2 3) f3)) (zV (As := []) hx hb hml hown hT hl.1 (c_Valley_clear o1 a1 s1 hc2) zY_Valley_clear tb_506 (zpRw hK hP hD [1] (by decide) rfl 0 9 rfl rfl rfl rfl) rm_ok_Teller_tell_Valley_clear rfl rfl (Nat.le_of_ble_eq_true rfl) dX8_tell_16 ⟨Nat.zero_le _, Nat.zero_le _⟩) hP hD hS hA [1] [0, 2, 3, 4, 5, 6, 7, 8, 9, 10, 11, 12, 13, 14, 15] [0, 15, 1, 2, 3, 4, 5, 6, 7, 8, 9, 10, 11, 12, 13, 14] rfl rfl (by decide) (by decide) (by decide) rfl rfl (fun H locs hP hD hS => ?_)
  refine lv_aload_n hx hb dX8_tell_19 rfl (lv_at hl 0 rfl) ?_
  refine zget (v := .ref (a0 2)) hx hb hown hT hK hP inX8 rfl smX8 0 rfl 2 (by decide) tb_70 rfl dX8_tell_20 ?_
  refine lv_iload_n hx hb dX8_tell_23 rfl (lv_at hl 1 rfl) ?_
  obtain ⟨z3, hc4, hf⟩ := zbd_some hf
  refine zwv (wr := [(o0, .inr (8, fs_Teller a0 (upd (upd (upd (zI s0) 0 0) 1 (-1)) 3 0) (zL s0))), (o1, .inr (9, fs_Valley a1 (zI z1) (zL z1))), (a1 1, .inl (cy 1, 3, .inr (.inl (zB s1 1)))), (a1 2, .inl (cy 0, 3, .inl (zA s1 2))), (a1 4, .inl (cy 1, 11, .inr (.inl (zB s1 4)))), (a1 5, .inl (cy 0, 11, .inl (zA s1 5))), (a1 6, .inl (cy 0, 11, .inl (zA s1 6))), (a1 7, .inl (cy 0, 11, .inl (zA s1 7))), (a1 10, .inl (cy 0, 11, .inl (zA s1 10))), (a1 13, .inl (cy 1, 4, .inr (.inl (zB s1 13)))), (a1 14, .inl (cy 0, 4, .inl (zA s1 14)))]) (ws' := (wd_Teller_tell cy o0 a0 (upd (upd (upd (zI s0) 0 0) 1 (-1)) 3 0) (zL s0) o1 a1 (zI z1) (zL z1) (zB s1 1) (zA s1 2) (zB s1 4) (zA s1 5) (zA s1 6) (zA s1 7) (zA s1 10) (zB s1 13) (zA s1 14) a2 (zI z3) (zL z3) (zA z3 1) (zA z3 2) (zB z3 3) f3)) (zV (As := [.int v1]) hx hb hml hown hT hl.1 (c_Reader_read (a0 2) a2 s2 f3 v1 hc4) zY_Reader_read tb_510 (zpRw hK hP hD [11, 12, 13, 14, 15] (by decide) rfl 0 6 rfl rfl rfl rfl) rm_ok_Teller_tell_Reader_read rfl rfl (Nat.le_of_ble_eq_true rfl) dX8_tell_24 ⟨Nat.zero_le _, Nat.zero_le _⟩) hP hD hS hA [11, 12, 13, 14, 15] [0, 1, 2, 3, 4, 5, 6, 7, 8, 9, 10] [0, 1, 2, 3, 4, 5, 6, 7, 8, 9, 10, 11, 12, 13, 14, 15] rfl rfl (by decide) (by decide) (by decide) rfl rfl (fun H locs hP hD hS => ?_)
  refine lv_iconst (v := 0) hx hb dX8_tell_27 (by decide) ?_
  refine lv_istore_n (lv' := [(3, .int 0), (0, .ref o0), (1, .int v1), (2, .ref o1)]) hx hb dX8_tell_28 rfl hl (by decide) rfl (fun ls hl => ?_)
  exact k_Teller_tell_h29 C0 f3  hA N (zpI (zpI (zpI s0 0 0) 1 (-1)) 3 0) (zmg [1,2,4,5,6,7,10,13,14] z1 s1) z3 0 hP hD hS hf _ (lv_sub hl [1, 3, 0] rfl)
set_option maxHeartbeats 4000000 in
set_option maxRecDepth 100000 in
theorem c_Teller_tell {l : Launch} {dC : Nat → ClassId} {dI : Nat → Nat → Nat} {cy : Nat → ClassId} {sz : Nat} {N : Nat} (o0 : Nat) (a0 : Nat → Nat) (s0 : zSt) (o1 : Nat) (a1 : Nat → Nat) (s1 : zSt) (a2 : Nat → Nat) (s2 : zSt) (f3 : Nat → Int32) (v1 : Int32) {y : Int32 × zSt × zSt × zSt} (hf : Teller_tell N s0 s1 s2 f3 v1 = some y) : Met l yX8_tell (.code yX8_tell cX8_tell 4 (some .boolean) :: zt) rm_Teller_tell (va_Pc [.ref o0, .int v1, .ref o1] (zPre (dC, dI) cy (wd_Teller_tell cy o0 a0 (zI s0) (zL s0) o1 a1 (zI s1) (zL s1) (zB s1 1) (zA s1 2) (zB s1 4) (zA s1 5) (zA s1 6) (zA s1 7) (zA s1 10) (zB s1 13) (zA s1 14) a2 (zI s2) (zL s2) (zA s2 1) (zA s2 2) (zB s2 3) f3) sz)) (zQi y.1 (dC, dI) cy (wd_Teller_tell cy o0 a0 (zI y.2.1) (zL y.2.1) o1 a1 (zI y.2.2.1) (zL y.2.2.1) (zB y.2.2.1 1) (zA y.2.2.1 2) (zB y.2.2.1 4) (zA y.2.2.1 5) (zA y.2.2.1 6) (zA y.2.2.1 7) (zA y.2.2.1 10) (zB y.2.2.1 13) (zA y.2.2.1 14) a2 (zI y.2.2.2) (zL y.2.2.2) (zA y.2.2.2 1) (zA y.2.2.2 2) (zB y.2.2.2 3) f3) (va_A (wd_Teller_tell cy o0 a0 (zI s0) (zL s0) o1 a1 (zI s1) (zL s1) (zB s1 1) (zA s1 2) (zB s1 4) (zA s1 5) (zA s1 6) (zA s1 7) (zA s1 10) (zB s1 13) (zA s1 14) a2 (zI s2) (zL s2) (zA s2 1) (zA s2 2) (zB s2 3) f3) sz)) 0 0 (va_A (wd_Teller_tell cy o0 a0 (zI s0) (zL s0) o1 a1 (zI s1) (zL s1) (zB s1 1) (zA s1 2) (zB s1 4) (zA s1 5) (zA s1 6) (zA s1 7) (zA s1 10) (zB s1 13) (zA s1 14) a2 (zI s2) (zL s2) (zA s2 1) (zA s2 2) (zB s2 3) f3) sz) :=
  zentW (Qw := fun A => (zQi y.1 (dC, dI) cy (wd_Teller_tell cy o0 a0 (zI y.2.1) (zL y.2.1) o1 a1 (zI y.2.2.1) (zL y.2.2.1) (zB y.2.2.1 1) (zA y.2.2.1 2) (zB y.2.2.1 4) (zA y.2.2.1 5) (zA y.2.2.1 6) (zA y.2.2.1 7) (zA y.2.2.1 10) (zB y.2.2.1 13) (zA y.2.2.1 14) a2 (zI y.2.2.2) (zL y.2.2.2) (zA y.2.2.2 1) (zA y.2.2.2 2) (zB y.2.2.2 3) f3) A)) (by decide +kernel) (Nat.le_of_ble_eq_true rfl) (fun p e s m below meth c A C0 hA hP hD hS ls hl => k_Teller_tell_b0 C0 s0 s1 s2 f3 v1 hA hP hD hS hf ls hl)
def wd_Valley_hasBell (cy : Nat → ClassId) (o0 : Nat) (a0 : Nat → Nat) (g0 : Nat → Int32) (h0 : Nat → Int64) : va_W := [(o0, .inr (9, fs_Valley a0 g0 h0))]
def rm_Valley_hasBell : Room := { frames := 2, cells := 0, slots := 0, locals := 62 }
theorem rm_ok_Valley_hasBell_CH_within : rm_CH_within.cells = 0 ∧ rm_CH_within.slots = 0 ∧ rm_CH_within.frames + 1 ≤ rm_Valley_hasBell.frames ∧ 8 + (3 + 11) + rm_CH_within.locals ≤ rm_Valley_hasBell.locals := by decide
set_option maxHeartbeats 4000000 in
set_option maxRecDepth 100000 in
theorem k_Valley_hasBell_b0 {p : Program} {l : Launch} {e : Env} {s : State} {m : MethodId} {args : Array Value} {below : List Frame} {meth : Method} {c : Code} {dC : Nat → ClassId} {dI : Nat → Nat → Nat} {cy : Nat → ClassId} {o0 : Nat} {a0 : Nat → Nat} {N : Nat} {y : Int32} (C0 : zCx p s m args meth c cX9_hasBell 2 (some .boolean) RX9 (dC, dI) cy) (s0 : zSt) (v1 : Int32) (hP : va_P (dC, dI) vwCl (wd_Valley_hasBell cy o0 a0 (zI s0) (zL s0)) s.heap) (hf : Valley_hasBell_b0 N s0 v1 = some y) (ls : Array Slot) (hl : lv_has ls 2 [(0, .ref o0), (1, .int v1)]) : W p l e rm_Valley_hasBell s m args below meth c s.heap [] 0 0 (MQ below (zSi y) args s 0 0 (fun _ => False)) (F0 m 0 ls []) := by
  obtain ⟨hx, hb, hr, hml, hown, hT, hk, hK⟩ := id C0
  refine lv_iload_n hx hb dX9_hasBell_0 rfl (lv_at hl 1 rfl) ?_
  refine lv_iconst (v := 0) hx hb dX9_hasBell_1 (by decide) ?_
  refine lv_aload_n hx hb dX9_hasBell_2 rfl (lv_at hl 0 rfl) ?_
  refine zget (v := .int (zI s0 3)) hx hb hown hT hK hP inX9 rfl smX9 0 rfl 3 (by decide) tb_101 rfl dX9_hasBell_3 ?_
  refine lv_iconst (v := 1) hx hb dX9_hasBell_6 (by decide) ?_
  refine lv_isub hx hb dX9_hasBell_7 ?_
  obtain ⟨z1, hc2, hf⟩ := zbd_some hf
  refine zri (zSN (As := [.int v1, .int 0, .int ((zI s0 3) - 1)]) hx hb hml hown hT hl.1 (c_CH_within v1 0 ((zI s0 3) - 1) hc2) zY_CH_within hK nl_11 (zpS hK hP [] rfl) rm_ok_Valley_hasBell_CH_within rfl rfl (Nat.le_of_ble_eq_true rfl) dX9_hasBell_8 ⟨Nat.zero_le _, Nat.zero_le _⟩) ?_
  obtain ⟨hq3, hf⟩ := zcb_some hf
  cases hf
  exact zerz hx hb hr hk hq3 dX9_hasBell_11
set_option maxHeartbeats 4000000 in
set_option maxRecDepth 100000 in
theorem c_Valley_hasBell {l : Launch} {dC : Nat → ClassId} {dI : Nat → Nat → Nat} {cy : Nat → ClassId} {N : Nat} (o0 : Nat) (a0 : Nat → Nat) (s0 : zSt) (v1 : Int32) {y : Int32} (hf : Valley_hasBell N s0 v1 = some y) : Met l yX9_hasBell (.code yX9_hasBell cX9_hasBell 2 (some .boolean) :: zt) rm_Valley_hasBell (va_Pc [.ref o0, .int v1] (zRd (dC, dI) cy (wd_Valley_hasBell cy o0 a0 (zI s0) (zL s0)))) (zSi y) 0 0 (fun _ => False) :=
  zentR (by decide +kernel) (Nat.le_of_ble_eq_true rfl) (fun p e s m below meth c C0 hP ls hl => k_Valley_hasBell_b0 C0 s0 v1 hP hf ls hl)
def wd_Valley_hasEar (cy : Nat → ClassId) (o0 : Nat) (a0 : Nat → Nat) (g0 : Nat → Int32) (h0 : Nat → Int64) : va_W := [(o0, .inr (9, fs_Valley a0 g0 h0))]
def rm_Valley_hasEar : Room := { frames := 2, cells := 0, slots := 0, locals := 62 }
theorem rm_ok_Valley_hasEar_CH_within : rm_CH_within.cells = 0 ∧ rm_CH_within.slots = 0 ∧ rm_CH_within.frames + 1 ≤ rm_Valley_hasEar.frames ∧ 8 + (3 + 11) + rm_CH_within.locals ≤ rm_Valley_hasEar.locals := by decide
set_option maxHeartbeats 4000000 in
set_option maxRecDepth 100000 in
theorem k_Valley_hasEar_b0 {p : Program} {l : Launch} {e : Env} {s : State} {m : MethodId} {args : Array Value} {below : List Frame} {meth : Method} {c : Code} {dC : Nat → ClassId} {dI : Nat → Nat → Nat} {cy : Nat → ClassId} {o0 : Nat} {a0 : Nat → Nat} {N : Nat} {y : Int32} (C0 : zCx p s m args meth c cX9_hasEar 2 (some .boolean) RX9 (dC, dI) cy) (s0 : zSt) (v1 : Int32) (hP : va_P (dC, dI) vwCl (wd_Valley_hasEar cy o0 a0 (zI s0) (zL s0)) s.heap) (hf : Valley_hasEar_b0 N s0 v1 = some y) (ls : Array Slot) (hl : lv_has ls 2 [(0, .ref o0), (1, .int v1)]) : W p l e rm_Valley_hasEar s m args below meth c s.heap [] 0 0 (MQ below (zSi y) args s 0 0 (fun _ => False)) (F0 m 0 ls []) := by
  obtain ⟨hx, hb, hr, hml, hown, hT, hk, hK⟩ := id C0
  refine lv_iload_n hx hb dX9_hasEar_0 rfl (lv_at hl 1 rfl) ?_
  refine lv_iconst (v := 0) hx hb dX9_hasEar_1 (by decide) ?_
  refine lv_aload_n hx hb dX9_hasEar_2 rfl (lv_at hl 0 rfl) ?_
  refine zget (v := .int (zI s0 12)) hx hb hown hT hK hP inX9 rfl smX9 0 rfl 12 (by decide) tb_130 rfl dX9_hasEar_3 ?_
  refine lv_iconst (v := 1) hx hb dX9_hasEar_6 (by decide) ?_
  refine lv_isub hx hb dX9_hasEar_7 ?_
  obtain ⟨z1, hc2, hf⟩ := zbd_some hf
  refine zri (zSN (As := [.int v1, .int 0, .int ((zI s0 12) - 1)]) hx hb hml hown hT hl.1 (c_CH_within v1 0 ((zI s0 12) - 1) hc2) zY_CH_within hK nl_11 (zpS hK hP [] rfl) rm_ok_Valley_hasEar_CH_within rfl rfl (Nat.le_of_ble_eq_true rfl) dX9_hasEar_8 ⟨Nat.zero_le _, Nat.zero_le _⟩) ?_
  obtain ⟨hq3, hf⟩ := zcb_some hf
  cases hf
  exact zerz hx hb hr hk hq3 dX9_hasEar_11
set_option maxHeartbeats 4000000 in
set_option maxRecDepth 100000 in
theorem c_Valley_hasEar {l : Launch} {dC : Nat → ClassId} {dI : Nat → Nat → Nat} {cy : Nat → ClassId} {N : Nat} (o0 : Nat) (a0 : Nat → Nat) (s0 : zSt) (v1 : Int32) {y : Int32} (hf : Valley_hasEar N s0 v1 = some y) : Met l yX9_hasEar (.code yX9_hasEar cX9_hasEar 2 (some .boolean) :: zt) rm_Valley_hasEar (va_Pc [.ref o0, .int v1] (zRd (dC, dI) cy (wd_Valley_hasEar cy o0 a0 (zI s0) (zL s0)))) (zSi y) 0 0 (fun _ => False) :=
  zentR (by decide +kernel) (Nat.le_of_ble_eq_true rfl) (fun p e s m below meth c C0 hP ls hl => k_Valley_hasEar_b0 C0 s0 v1 hP hf ls hl)
