def wd_Mo_token (cy : Nat → ClassId) (o0 : Nat) (a0 : Nat → Nat) (g0 : Nat → Int32) (h0 : Nat → Int64) (x0_0 : Nat → Int32) : va_W := [(o0, .inr (11, fs_Mo a0 g0 h0)), (a0 0, .inl (cy 0, 1500, .inl x0_0))]
def rm_Mo_token : Room := { frames := 2, cells := 0, slots := 0, locals := 61 }
theorem rm_ok_Mo_token_Mo_here : rm_Mo_here.cells = 0 ∧ rm_Mo_here.slots = 0 ∧ rm_Mo_here.frames + 1 ≤ rm_Mo_token.frames ∧ 8 + (2 + 11) + rm_Mo_here.locals ≤ rm_Mo_token.locals := by decide
theorem rm_ok_Mo_token_Mo_isDigit : rm_Mo_isDigit.cells = 0 ∧ rm_Mo_isDigit.slots = 0 ∧ rm_Mo_isDigit.frames + 1 ≤ rm_Mo_token.frames ∧ 8 + (1 + 11) + rm_Mo_isDigit.locals ≤ rm_Mo_token.locals := by decide
theorem rm_ok_Mo_token_Mo_isLetter : rm_Mo_isLetter.cells = 0 ∧ rm_Mo_isLetter.slots = 0 ∧ rm_Mo_isLetter.frames + 1 ≤ rm_Mo_token.frames ∧ 8 + (1 + 11) + rm_Mo_isLetter.locals ≤ rm_Mo_token.locals := by decide
set_option maxHeartbeats 4000000 in
set_option maxRecDepth 100000 in
theorem k_Mo_token_b231 {p : Program} {l : Launch} {e : Env} {s : State} {m : MethodId} {args : Array Value} {below : List Frame} {meth : Method} {c : Code} {dC : Nat → ClassId} {dI : Nat → Nat → Nat} {cy : Nat → ClassId} {A : Nat → Prop} {o0 : Nat} {a0 : Nat → Nat} {N : Nat} {y : zSt} (C0 : zCx p s m args meth c cX11_token 3 none RX11 (dC, dI) cy) (s0 : zSt) (v2 : Int32) (hA : ∀ q, s.heap.size ≤ q → A q) {H : Heap} {locs : List Loc} (hP : va_P (dC, dI) vwCl (wd_Mo_token cy o0 a0 (zI s0) (zL s0) (zA s0 0)) H) (hD : va_D A (wd_Mo_token cy o0 a0 (zI s0) (zL s0) (zA s0 0))) (hS : va_S A s.heap H locs) (hf : Mo_token_b231 N s0 v2 = some y) (ls : Array Slot) (hl : lv_has ls 3 [(0, .ref o0), (2, .int v2)]) : W p l e rm_Mo_token s m args below meth c H locs 0 0 (MQ below (zQv (dC, dI) cy (wd_Mo_token cy o0 a0 (zI y) (zL y) (zA y 0)) A) args s 0 0 A) (F0 m 231 ls []) := by
  obtain ⟨hx, hb, hr, hml, hown, hT, hk, hK⟩ := id C0
  refine lv_aload_n hx hb dX11_token_231 rfl (lv_at hl 0 rfl) ?_
  refine zget (v := .int (zI s0 6)) hx hb hown hT hK hP inX11 rfl smX11 0 rfl 6 (by decide) tb_1008 rfl dX11_token_232 ?_
  refine lv_iconst (v := 3) hx hb dX11_token_235 (by decide) ?_
  refine lv_icmp_eq (tgt := 249) hx hb dX11_token_236 (by decide) (fun hb_1 => ?_) (fun hb_1 => ?_)
  · have hf := zif_t hb_1 hf
    cases hf
    exact zewv hx hb hr hk hK hP hD hS dX11_token_249
  · have hf := zif_f hb_1 hf
    refine lv_aload_n hx hb dX11_token_239 rfl (lv_at hl 0 rfl) ?_
    refine lv_dup hx hb dX11_token_240 rfl ?_
    refine zget (v := .int (zI s0 4)) hx hb hown hT hK hP inX11 rfl smX11 0 rfl 4 (by decide) tb_1006 rfl dX11_token_241 ?_
    refine lv_iload_n hx hb dX11_token_244 rfl (lv_at hl 1 rfl) ?_
    refine lv_iadd hx hb dX11_token_245 ?_
    refine zput (fs' := fs_Mo a0 (upd (zI s0) 4 ((zI s0 4) + v2)) (zL s0)) (ws' := (wd_Mo_token cy o0 a0 (upd (zI s0) 4 ((zI s0 4) + v2)) (zL s0) (zA s0 0))) hx hb hown hT hK hP hD hS inX11 rfl smX11 tyX11_ok nmX11 0 rfl 4 (by decide) tb_1006 rfl rfl rfl (Nat.le_of_ble_eq_true rfl) rfl rfl dX11_token_246 (fun H locs hP hD hS => ?_)
    cases hf
    exact zewv hx hb hr hk hK hP hD hS dX11_token_249
set_option maxHeartbeats 4000000 in
set_option maxRecDepth 100000 in
theorem k_Mo_token_b228 {p : Program} {l : Launch} {e : Env} {s : State} {m : MethodId} {args : Array Value} {below : List Frame} {meth : Method} {c : Code} {dC : Nat → ClassId} {dI : Nat → Nat → Nat} {cy : Nat → ClassId} {A : Nat → Prop} {o0 : Nat} {a0 : Nat → Nat} {N : Nat} {y : zSt} (C0 : zCx p s m args meth c cX11_token 3 none RX11 (dC, dI) cy) (s0 : zSt) (v2 : Int32) (t1 : Int32) (hA : ∀ q, s.heap.size ≤ q → A q) {H : Heap} {locs : List Loc} (hP : va_P (dC, dI) vwCl (wd_Mo_token cy o0 a0 (zI s0) (zL s0) (zA s0 0)) H) (hD : va_D A (wd_Mo_token cy o0 a0 (zI s0) (zL s0) (zA s0 0))) (hS : va_S A s.heap H locs) (hf : Mo_token_b228 N s0 v2 t1 = some y) (ls : Array Slot) (hl : lv_has ls 3 [(0, .ref o0), (2, .int v2)]) : W p l e rm_Mo_token s m args below meth c H locs 0 0 (MQ below (zQv (dC, dI) cy (wd_Mo_token cy o0 a0 (zI y) (zL y) (zA y 0)) A) args s 0 0 A) (F0 m 228 ls [.int t1, .ref o0]) := by
  obtain ⟨hx, hb, hr, hml, hown, hT, hk, hK⟩ := id C0
  refine zput (fs' := fs_Mo a0 (upd (zI s0) 6 t1) (zL s0)) (ws' := (wd_Mo_token cy o0 a0 (upd (zI s0) 6 t1) (zL s0) (zA s0 0))) hx hb hown hT hK hP hD hS inX11 rfl smX11 tyX11_ok nmX11 0 rfl 6 (by decide) tb_1008 rfl rfl rfl (Nat.le_of_ble_eq_true rfl) rfl rfl dX11_token_228 (fun H locs hP hD hS => ?_)
  exact k_Mo_token_b231 C0 (zpI s0 6 t1) v2  hA hP hD hS hf _ (lv_sub hl [0, 1] rfl)
set_option maxHeartbeats 4000000 in
set_option maxRecDepth 100000 in
theorem k_Mo_token_b208 {p : Program} {l : Launch} {e : Env} {s : State} {m : MethodId} {args : Array Value} {below : List Frame} {meth : Method} {c : Code} {dC : Nat → ClassId} {dI : Nat → Nat → Nat} {cy : Nat → ClassId} {A : Nat → Prop} {o0 : Nat} {a0 : Nat → Nat} {N : Nat} {y : zSt} (C0 : zCx p s m args meth c cX11_token 3 none RX11 (dC, dI) cy) (s0 : zSt) (v2 : Int32) (t1 : Int32) (hA : ∀ q, s.heap.size ≤ q → A q) {H : Heap} {locs : List Loc} (hP : va_P (dC, dI) vwCl (wd_Mo_token cy o0 a0 (zI s0) (zL s0) (zA s0 0)) H) (hD : va_D A (wd_Mo_token cy o0 a0 (zI s0) (zL s0) (zA s0 0))) (hS : va_S A s.heap H locs) (hf : Mo_token_b208 N s0 v2 t1 = some y) (ls : Array Slot) (hl : lv_has ls 3 [(0, .ref o0), (2, .int v2)]) : W p l e rm_Mo_token s m args below meth c H locs 0 0 (MQ below (zQv (dC, dI) cy (wd_Mo_token cy o0 a0 (zI y) (zL y) (zA y 0)) A) args s 0 0 A) (F0 m 208 ls [.int t1, .ref o0]) := by
  obtain ⟨hx, hb, hr, hml, hown, hT, hk, hK⟩ := id C0
  refine zput (fs' := fs_Mo a0 (upd (zI s0) 6 t1) (zL s0)) (ws' := (wd_Mo_token cy o0 a0 (upd (zI s0) 6 t1) (zL s0) (zA s0 0))) hx hb hown hT hK hP hD hS inX11 rfl smX11 tyX11_ok nmX11 0 rfl 6 (by decide) tb_1008 rfl rfl rfl (Nat.le_of_ble_eq_true rfl) rfl rfl dX11_token_208 (fun H locs hP hD hS => ?_)
  refine lv_goto (tgt := 231) hx hb dX11_token_211 (by decide) ?_
  exact k_Mo_token_b231 C0 (zpI s0 6 t1) v2  hA hP hD hS hf _ (lv_sub hl [0, 1] rfl)
set_option maxHeartbeats 4000000 in
set_option maxRecDepth 100000 in
theorem k_Mo_token_b203 {p : Program} {l : Launch} {e : Env} {s : State} {m : MethodId} {args : Array Value} {below : List Frame} {meth : Method} {c : Code} {dC : Nat → ClassId} {dI : Nat → Nat → Nat} {cy : Nat → ClassId} {A : Nat → Prop} {o0 : Nat} {a0 : Nat → Nat} {N : Nat} {y : zSt} (C0 : zCx p s m args meth c cX11_token 3 none RX11 (dC, dI) cy) (s0 : zSt) (v2 : Int32) (hA : ∀ q, s.heap.size ≤ q → A q) {H : Heap} {locs : List Loc} (hP : va_P (dC, dI) vwCl (wd_Mo_token cy o0 a0 (zI s0) (zL s0) (zA s0 0)) H) (hD : va_D A (wd_Mo_token cy o0 a0 (zI s0) (zL s0) (zA s0 0))) (hS : va_S A s.heap H locs) (hf : Mo_token_b203 N s0 v2 = some y) (ls : Array Slot) (hl : lv_has ls 3 [(0, .ref o0), (2, .int v2)]) : W p l e rm_Mo_token s m args below meth c H locs 0 0 (MQ below (zQv (dC, dI) cy (wd_Mo_token cy o0 a0 (zI y) (zL y) (zA y 0)) A) args s 0 0 A) (F0 m 203 ls [.ref o0]) := by
  obtain ⟨hx, hb, hr, hml, hown, hT, hk, hK⟩ := id C0
  refine lv_iconst (v := 3) hx hb dX11_token_203 (by decide) ?_
  refine lv_goto (tgt := 208) hx hb dX11_token_204 (by decide) ?_
  exact k_Mo_token_b208 C0 s0 v2 3  hA hP hD hS hf _ (lv_sub hl [0, 1] rfl)
set_option maxHeartbeats 4000000 in
set_option maxRecDepth 100000 in
theorem k_Mo_token_b180 {p : Program} {l : Launch} {e : Env} {s : State} {m : MethodId} {args : Array Value} {below : List Frame} {meth : Method} {c : Code} {dC : Nat → ClassId} {dI : Nat → Nat → Nat} {cy : Nat → ClassId} {A : Nat → Prop} {o0 : Nat} {a0 : Nat → Nat} {N : Nat} {kh144 : zSt → Int32 → Option (zSt)} {y : zSt} (C0 : zCx p s m args meth c cX11_token 3 none RX11 (dC, dI) cy) (s0 : zSt) (v2 : Int32) (hk144 : ∀ (s0 : zSt) (v2 : Int32) {H : Heap} {locs : List Loc} (_ : va_P (dC, dI) vwCl (wd_Mo_token cy o0 a0 (zI s0) (zL s0) (zA s0 0)) H) (_ : va_D A (wd_Mo_token cy o0 a0 (zI s0) (zL s0) (zA s0 0))) (_ : va_S A s.heap H locs) (_ : kh144 s0 v2 = some y) (ls : Array Slot) (_ : lv_has ls 3 [(0, .ref o0), (2, .int v2)]), W p l e rm_Mo_token s m args below meth c H locs 0 0 (MQ below (zQv (dC, dI) cy (wd_Mo_token cy o0 a0 (zI y) (zL y) (zA y 0)) A) args s 0 0 A) (F0 m 144 ls [])) (hA : ∀ q, s.heap.size ≤ q → A q) {H : Heap} {locs : List Loc} (hP : va_P (dC, dI) vwCl (wd_Mo_token cy o0 a0 (zI s0) (zL s0) (zA s0 0)) H) (hD : va_D A (wd_Mo_token cy o0 a0 (zI s0) (zL s0) (zA s0 0))) (hS : va_S A s.heap H locs) (hf : Mo_token_b180 N kh144 s0 v2 = some y) (ls : Array Slot) (hl : lv_has ls 3 [(0, .ref o0), (2, .int v2)]) : W p l e rm_Mo_token s m args below meth c H locs 0 0 (MQ below (zQv (dC, dI) cy (wd_Mo_token cy o0 a0 (zI y) (zL y) (zA y 0)) A) args s 0 0 A) (F0 m 180 ls []) := by
  obtain ⟨hx, hb, hr, hml, hown, hT, hk, hK⟩ := id C0
  refine lv_iinc (v := v2 + 1) (lv' := [(2, .int (v2 + 1)), (0, .ref o0)]) hx hb dX11_token_180 hl (k := 1) rfl rfl (by decide) rfl (fun ls hl => ?_)
  refine lv_goto (tgt := 144) hx hb dX11_token_183 (by decide) ?_
  exact hk144 s0 (v2 + 1) hP hD hS hf _ (lv_sub hl [1, 0] rfl)
set_option maxHeartbeats 4000000 in
set_option maxRecDepth 100000 in
theorem k_Mo_token_b144 {p : Program} {l : Launch} {e : Env} {s : State} {m : MethodId} {args : Array Value} {below : List Frame} {meth : Method} {c : Code} {dC : Nat → ClassId} {dI : Nat → Nat → Nat} {cy : Nat → ClassId} {A : Nat → Prop} {o0 : Nat} {a0 : Nat → Nat} {N : Nat} {kh144 : zSt → Int32 → Option (zSt)} {y : zSt} (C0 : zCx p s m args meth c cX11_token 3 none RX11 (dC, dI) cy) (s0 : zSt) (v2 : Int32) (hk144 : ∀ (s0 : zSt) (v2 : Int32) {H : Heap} {locs : List Loc} (_ : va_P (dC, dI) vwCl (wd_Mo_token cy o0 a0 (zI s0) (zL s0) (zA s0 0)) H) (_ : va_D A (wd_Mo_token cy o0 a0 (zI s0) (zL s0) (zA s0 0))) (_ : va_S A s.heap H locs) (_ : kh144 s0 v2 = some y) (ls : Array Slot) (_ : lv_has ls 3 [(0, .ref o0), (2, .int v2)]), W p l e rm_Mo_token s m args below meth c H locs 0 0 (MQ below (zQv (dC, dI) cy (wd_Mo_token cy o0 a0 (zI y) (zL y) (zA y 0)) A) args s 0 0 A) (F0 m 144 ls [])) (hA : ∀ q, s.heap.size ≤ q → A q) {H : Heap} {locs : List Loc} (hP : va_P (dC, dI) vwCl (wd_Mo_token cy o0 a0 (zI s0) (zL s0) (zA s0 0)) H) (hD : va_D A (wd_Mo_token cy o0 a0 (zI s0) (zL s0) (zA s0 0))) (hS : va_S A s.heap H locs) (hf : Mo_token_b144 N kh144 s0 v2 = some y) (ls : Array Slot) (hl : lv_has ls 3 [(0, .ref o0), (2, .int v2)]) : W p l e rm_Mo_token s m args below meth c H locs 0 0 (MQ below (zQv (dC, dI) cy (wd_Mo_token cy o0 a0 (zI y) (zL y) (zA y 0)) A) args s 0 0 A) (F0 m 144 ls []) := by
  obtain ⟨hx, hb, hr, hml, hown, hT, hk, hK⟩ := id C0
  refine lv_aload_n hx hb dX11_token_144 rfl (lv_at hl 0 rfl) ?_
  refine lv_iload_n hx hb dX11_token_145 rfl (lv_at hl 1 rfl) ?_
  obtain ⟨z1, hc2, hf⟩ := zbd_some hf
  refine zri (zV (As := [.int v2]) hx hb hml hown hT hl.1 (c_Mo_here o0 a0 s0 v2 hc2) zY_Mo_here tb_1220 (zpR hK hP [0, 1] rfl 0 11 rfl rfl rfl) rm_ok_Mo_token_Mo_here rfl rfl (Nat.le_of_ble_eq_true rfl) dX11_token_146 ⟨Nat.zero_le _, Nat.zero_le _⟩) ?_
  obtain ⟨z3, hc4, hf⟩ := zbd_some hf
  refine zri (zS (As := [.int z1]) hx hb hml hown hT hl.1 (c_Mo_isDigit z1 hc4) zY_Mo_isDigit tb_1227 (zpS hK hP [] rfl) rm_ok_Mo_token_Mo_isDigit rfl rfl (Nat.le_of_ble_eq_true rfl) dX11_token_149 ⟨Nat.zero_le _, Nat.zero_le _⟩) ?_
  refine lv_if_eq (tgt := 186) hx hb dX11_token_152 (by decide) (fun hb_5 => ?_) (fun hb_5 => ?_)
  · have hf := zif_t hb_5 hf
    refine lv_aload_n hx hb dX11_token_186 rfl (lv_at hl 0 rfl) ?_
    refine lv_iload_n hx hb dX11_token_187 rfl (lv_at hl 1 rfl) ?_
    refine lv_iconst (v := 4) hx hb dX11_token_188 (by decide) ?_
    refine lv_icmp_gt (tgt := 203) hx hb dX11_token_189 (by decide) (fun hb_6 => ?_) (fun hb_6 => ?_)
    · have hf := zif_t hb_6 hf
      exact k_Mo_token_b203 C0 s0 v2  hA hP hD hS hf _ (lv_sub hl [0, 1] rfl)
    · have hf := zif_f hb_6 hf
      refine lv_aload_n hx hb dX11_token_192 rfl (lv_at hl 0 rfl) ?_
      refine lv_iload_n hx hb dX11_token_193 rfl (lv_at hl 1 rfl) ?_
      obtain ⟨z7, hc8, hf⟩ := zbd_some hf
      refine zri (zV (As := [.int v2]) hx hb hml hown hT hl.1 (c_Mo_here o0 a0 s0 v2 hc8) zY_Mo_here tb_1220 (zpR hK hP [0, 1] rfl 0 11 rfl rfl rfl) rm_ok_Mo_token_Mo_here rfl rfl (Nat.le_of_ble_eq_true rfl) dX11_token_194 ⟨Nat.zero_le _, Nat.zero_le _⟩) ?_
      obtain ⟨z9, hc10, hf⟩ := zbd_some hf
      refine zri (zS (As := [.int z7]) hx hb hml hown hT hl.1 (c_Mo_isLetter z7 hc10) zY_Mo_isLetter tb_1224 (zpS hK hP [] rfl) rm_ok_Mo_token_Mo_isLetter rfl rfl (Nat.le_of_ble_eq_true rfl) dX11_token_197 ⟨Nat.zero_le _, Nat.zero_le _⟩) ?_
      refine lv_if_eq (tgt := 207) hx hb dX11_token_200 (by decide) (fun hb_11 => ?_) (fun hb_11 => ?_)
      · have hf := zif_t hb_11 hf
        refine lv_iconst (v := 2) hx hb dX11_token_207 (by decide) ?_
        exact k_Mo_token_b208 C0 s0 v2 2  hA hP hD hS hf _ (lv_sub hl [0, 1] rfl)
      · have hf := zif_f hb_11 hf
        exact k_Mo_token_b203 C0 s0 v2  hA hP hD hS hf _ (lv_sub hl [0, 1] rfl)
  · have hf := zif_f hb_5 hf
    refine lv_iload_n hx hb dX11_token_155 rfl (lv_at hl 1 rfl) ?_
    refine lv_iconst (v := 4) hx hb dX11_token_156 (by decide) ?_
    refine lv_icmp_ge (tgt := 180) hx hb dX11_token_157 (by decide) (fun hb_12 => ?_) (fun hb_12 => ?_)
    · have hf := zif_t hb_12 hf
      exact k_Mo_token_b180 C0 s0 v2 hk144 hA hP hD hS hf _ (lv_sub hl [0, 1] rfl)
    · have hf := zif_f hb_12 hf
      refine lv_aload_n hx hb dX11_token_160 rfl (lv_at hl 0 rfl) ?_
      refine lv_bipush (v := 10) hx hb dX11_token_161 (by decide) ?_
      refine lv_aload_n hx hb dX11_token_163 rfl (lv_at hl 0 rfl) ?_
      refine zget (v := .int (zI s0 8)) hx hb hown hT hK hP inX11 rfl smX11 0 rfl 8 (by decide) tb_1010 rfl dX11_token_164 ?_
      refine lv_imul hx hb dX11_token_167 ?_
      refine lv_aload_n hx hb dX11_token_168 rfl (lv_at hl 0 rfl) ?_
      refine lv_iload_n hx hb dX11_token_169 rfl (lv_at hl 1 rfl) ?_
      obtain ⟨z13, hc14, hf⟩ := zbd_some hf
      refine zri (zV (As := [.int v2]) hx hb hml hown hT hl.1 (c_Mo_here o0 a0 s0 v2 hc14) zY_Mo_here tb_1220 (zpR hK hP [0, 1] rfl 0 11 rfl rfl rfl) rm_ok_Mo_token_Mo_here rfl rfl (Nat.le_of_ble_eq_true rfl) dX11_token_170 ⟨Nat.zero_le _, Nat.zero_le _⟩) ?_
      refine lv_iadd hx hb dX11_token_173 ?_
      refine lv_bipush (v := 48) hx hb dX11_token_174 (by decide) ?_
      refine lv_isub hx hb dX11_token_176 ?_
      refine zput (fs' := fs_Mo a0 (upd (zI s0) 8 (((10 * (zI s0 8)) + z13) - 48)) (zL s0)) (ws' := (wd_Mo_token cy o0 a0 (upd (zI s0) 8 (((10 * (zI s0 8)) + z13) - 48)) (zL s0) (zA s0 0))) hx hb hown hT hK hP hD hS inX11 rfl smX11 tyX11_ok nmX11 0 rfl 8 (by decide) tb_1010 rfl rfl rfl (Nat.le_of_ble_eq_true rfl) rfl rfl dX11_token_177 (fun H locs hP hD hS => ?_)
      exact k_Mo_token_b180 C0 (zpI s0 8 (((10 * (zI s0 8)) + z13) - 48)) v2 hk144 hA hP hD hS hf _ (lv_sub hl [0, 1] rfl)
set_option maxHeartbeats 4000000 in
set_option maxRecDepth 100000 in
theorem k_Mo_token_h144 {p : Program} {l : Launch} {e : Env} {s : State} {m : MethodId} {args : Array Value} {below : List Frame} {meth : Method} {c : Code} {dC : Nat → ClassId} {dI : Nat → Nat → Nat} {cy : Nat → ClassId} {A : Nat → Prop} {o0 : Nat} {a0 : Nat → Nat} {N : Nat} {y : zSt} (C0 : zCx p s m args meth c cX11_token 3 none RX11 (dC, dI) cy) (hA : ∀ q, s.heap.size ≤ q → A q) : ∀ (n : Nat) (s0 : zSt) (v2 : Int32) {H : Heap} {locs : List Loc} (hP : va_P (dC, dI) vwCl (wd_Mo_token cy o0 a0 (zI s0) (zL s0) (zA s0 0)) H) (hD : va_D A (wd_Mo_token cy o0 a0 (zI s0) (zL s0) (zA s0 0))) (hS : va_S A s.heap H locs) (hf : Mo_token_h144 N n s0 v2 = some y) (ls : Array Slot) (hl : lv_has ls 3 [(0, .ref o0), (2, .int v2)]), W p l e rm_Mo_token s m args below meth c H locs 0 0 (MQ below (zQv (dC, dI) cy (wd_Mo_token cy o0 a0 (zI y) (zL y) (zA y 0)) A) args s 0 0 A) (F0 m 144 ls []) := by
  intro n
  induction n with
  | zero => intro s0 v2 H locs hP hD hS hf; cases hf
  | succ n ih =>
    intro s0 v2 H locs hP hD hS hf ls hl
    have hf : Mo_token_b144 N (Mo_token_h144 N n) s0 v2 = some y := hf
    exact k_Mo_token_b144 C0 s0 v2 (fun s0 v2 _ _ hP hD hS hf ls hl => ih s0 v2 hP hD hS hf ls hl) hA hP hD hS hf ls hl
set_option maxHeartbeats 4000000 in
set_option maxRecDepth 100000 in
theorem k_Mo_token_b131 {p : Program} {l : Launch} {e : Env} {s : State} {m : MethodId} {args : Array Value} {below : List Frame} {meth : Method} {c : Code} {dC : Nat → ClassId} {dI : Nat → Nat → Nat} {cy : Nat → ClassId} {A : Nat → Prop} {o0 : Nat} {a0 : Nat → Nat} {N : Nat} {y : zSt} (C0 : zCx p s m args meth c cX11_token 3 none RX11 (dC, dI) cy) (s0 : zSt) (v2 : Int32) (t1 : Int32) (hA : ∀ q, s.heap.size ≤ q → A q) {H : Heap} {locs : List Loc} (hP : va_P (dC, dI) vwCl (wd_Mo_token cy o0 a0 (zI s0) (zL s0) (zA s0 0)) H) (hD : va_D A (wd_Mo_token cy o0 a0 (zI s0) (zL s0) (zA s0 0))) (hS : va_S A s.heap H locs) (hf : Mo_token_b131 N s0 v2 t1 = some y) (ls : Array Slot) (hl : lv_has ls 3 [(0, .ref o0), (2, .int v2)]) : W p l e rm_Mo_token s m args below meth c H locs 0 0 (MQ below (zQv (dC, dI) cy (wd_Mo_token cy o0 a0 (zI y) (zL y) (zA y 0)) A) args s 0 0 A) (F0 m 131 ls [.int t1, .ref o0]) := by
  obtain ⟨hx, hb, hr, hml, hown, hT, hk, hK⟩ := id C0
  refine zput (fs' := fs_Mo a0 (upd (zI s0) 6 t1) (zL s0)) (ws' := (wd_Mo_token cy o0 a0 (upd (zI s0) 6 t1) (zL s0) (zA s0 0))) hx hb hown hT hK hP hD hS inX11 rfl smX11 tyX11_ok nmX11 0 rfl 6 (by decide) tb_1008 rfl rfl rfl (Nat.le_of_ble_eq_true rfl) rfl rfl dX11_token_131 (fun H locs hP hD hS => ?_)
  refine lv_goto (tgt := 231) hx hb dX11_token_134 (by decide) ?_
  exact k_Mo_token_b231 C0 (zpI s0 6 t1) v2  hA hP hD hS hf _ (lv_sub hl [0, 1] rfl)
set_option maxHeartbeats 4000000 in
set_option maxRecDepth 100000 in
theorem k_Mo_token_b113 {p : Program} {l : Launch} {e : Env} {s : State} {m : MethodId} {args : Array Value} {below : List Frame} {meth : Method} {c : Code} {dC : Nat → ClassId} {dI : Nat → Nat → Nat} {cy : Nat → ClassId} {A : Nat → Prop} {o0 : Nat} {a0 : Nat → Nat} {N : Nat} {kh78 : zSt → Int32 → Option (zSt)} {y : zSt} (C0 : zCx p s m args meth c cX11_token 3 none RX11 (dC, dI) cy) (s0 : zSt) (v2 : Int32) (hk78 : ∀ (s0 : zSt) (v2 : Int32) {H : Heap} {locs : List Loc} (_ : va_P (dC, dI) vwCl (wd_Mo_token cy o0 a0 (zI s0) (zL s0) (zA s0 0)) H) (_ : va_D A (wd_Mo_token cy o0 a0 (zI s0) (zL s0) (zA s0 0))) (_ : va_S A s.heap H locs) (_ : kh78 s0 v2 = some y) (ls : Array Slot) (_ : lv_has ls 3 [(0, .ref o0), (2, .int v2)]), W p l e rm_Mo_token s m args below meth c H locs 0 0 (MQ below (zQv (dC, dI) cy (wd_Mo_token cy o0 a0 (zI y) (zL y) (zA y 0)) A) args s 0 0 A) (F0 m 78 ls [])) (hA : ∀ q, s.heap.size ≤ q → A q) {H : Heap} {locs : List Loc} (hP : va_P (dC, dI) vwCl (wd_Mo_token cy o0 a0 (zI s0) (zL s0) (zA s0 0)) H) (hD : va_D A (wd_Mo_token cy o0 a0 (zI s0) (zL s0) (zA s0 0))) (hS : va_S A s.heap H locs) (hf : Mo_token_b113 N kh78 s0 v2 = some y) (ls : Array Slot) (hl : lv_has ls 3 [(0, .ref o0), (2, .int v2)]) : W p l e rm_Mo_token s m args below meth c H locs 0 0 (MQ below (zQv (dC, dI) cy (wd_Mo_token cy o0 a0 (zI y) (zL y) (zA y 0)) A) args s 0 0 A) (F0 m 113 ls []) := by
  obtain ⟨hx, hb, hr, hml, hown, hT, hk, hK⟩ := id C0
  refine lv_iinc (v := v2 + 1) (lv' := [(2, .int (v2 + 1)), (0, .ref o0)]) hx hb dX11_token_113 hl (k := 1) rfl rfl (by decide) rfl (fun ls hl => ?_)
  refine lv_goto (tgt := 78) hx hb dX11_token_116 (by decide) ?_
  exact hk78 s0 (v2 + 1) hP hD hS hf _ (lv_sub hl [1, 0] rfl)
set_option maxHeartbeats 4000000 in
set_option maxRecDepth 100000 in
theorem k_Mo_token_b78 {p : Program} {l : Launch} {e : Env} {s : State} {m : MethodId} {args : Array Value} {below : List Frame} {meth : Method} {c : Code} {dC : Nat → ClassId} {dI : Nat → Nat → Nat} {cy : Nat → ClassId} {A : Nat → Prop} {o0 : Nat} {a0 : Nat → Nat} {N : Nat} {kh78 : zSt → Int32 → Option (zSt)} {y : zSt} (C0 : zCx p s m args meth c cX11_token 3 none RX11 (dC, dI) cy) (s0 : zSt) (v2 : Int32) (hk78 : ∀ (s0 : zSt) (v2 : Int32) {H : Heap} {locs : List Loc} (_ : va_P (dC, dI) vwCl (wd_Mo_token cy o0 a0 (zI s0) (zL s0) (zA s0 0)) H) (_ : va_D A (wd_Mo_token cy o0 a0 (zI s0) (zL s0) (zA s0 0))) (_ : va_S A s.heap H locs) (_ : kh78 s0 v2 = some y) (ls : Array Slot) (_ : lv_has ls 3 [(0, .ref o0), (2, .int v2)]), W p l e rm_Mo_token s m args below meth c H locs 0 0 (MQ below (zQv (dC, dI) cy (wd_Mo_token cy o0 a0 (zI y) (zL y) (zA y 0)) A) args s 0 0 A) (F0 m 78 ls [])) (hA : ∀ q, s.heap.size ≤ q → A q) {H : Heap} {locs : List Loc} (hP : va_P (dC, dI) vwCl (wd_Mo_token cy o0 a0 (zI s0) (zL s0) (zA s0 0)) H) (hD : va_D A (wd_Mo_token cy o0 a0 (zI s0) (zL s0) (zA s0 0))) (hS : va_S A s.heap H locs) (hf : Mo_token_b78 N kh78 s0 v2 = some y) (ls : Array Slot) (hl : lv_has ls 3 [(0, .ref o0), (2, .int v2)]) : W p l e rm_Mo_token s m args below meth c H locs 0 0 (MQ below (zQv (dC, dI) cy (wd_Mo_token cy o0 a0 (zI y) (zL y) (zA y 0)) A) args s 0 0 A) (F0 m 78 ls []) := by
  obtain ⟨hx, hb, hr, hml, hown, hT, hk, hK⟩ := id C0
  refine lv_aload_n hx hb dX11_token_78 rfl (lv_at hl 0 rfl) ?_
  refine lv_iload_n hx hb dX11_token_79 rfl (lv_at hl 1 rfl) ?_
  obtain ⟨z1, hc2, hf⟩ := zbd_some hf
  refine zri (zV (As := [.int v2]) hx hb hml hown hT hl.1 (c_Mo_here o0 a0 s0 v2 hc2) zY_Mo_here tb_1220 (zpR hK hP [0, 1] rfl 0 11 rfl rfl rfl) rm_ok_Mo_token_Mo_here rfl rfl (Nat.le_of_ble_eq_true rfl) dX11_token_80 ⟨Nat.zero_le _, Nat.zero_le _⟩) ?_
  obtain ⟨z3, hc4, hf⟩ := zbd_some hf
  refine zri (zS (As := [.int z1]) hx hb hml hown hT hl.1 (c_Mo_isLetter z1 hc4) zY_Mo_isLetter tb_1224 (zpS hK hP [] rfl) rm_ok_Mo_token_Mo_isLetter rfl rfl (Nat.le_of_ble_eq_true rfl) dX11_token_83 ⟨Nat.zero_le _, Nat.zero_le _⟩) ?_
  refine lv_if_eq (tgt := 119) hx hb dX11_token_86 (by decide) (fun hb_5 => ?_) (fun hb_5 => ?_)
  · have hf := zif_t hb_5 hf
    refine lv_aload_n hx hb dX11_token_119 rfl (lv_at hl 0 rfl) ?_
    refine lv_iload_n hx hb dX11_token_120 rfl (lv_at hl 1 rfl) ?_
    refine lv_bipush (v := 8) hx hb dX11_token_121 (by decide) ?_
    refine lv_icmp_le (tgt := 130) hx hb dX11_token_123 (by decide) (fun hb_6 => ?_) (fun hb_6 => ?_)
    · have hf := zif_t hb_6 hf
      refine lv_iconst (v := 1) hx hb dX11_token_130 (by decide) ?_
      exact k_Mo_token_b131 C0 s0 v2 1  hA hP hD hS hf _ (lv_sub hl [0, 1] rfl)
    · have hf := zif_f hb_6 hf
      refine lv_iconst (v := 3) hx hb dX11_token_126 (by decide) ?_
      refine lv_goto (tgt := 131) hx hb dX11_token_127 (by decide) ?_
      exact k_Mo_token_b131 C0 s0 v2 3  hA hP hD hS hf _ (lv_sub hl [0, 1] rfl)
  · have hf := zif_f hb_5 hf
    refine lv_iload_n hx hb dX11_token_89 rfl (lv_at hl 1 rfl) ?_
    refine lv_bipush (v := 8) hx hb dX11_token_90 (by decide) ?_
    refine lv_icmp_ge (tgt := 113) hx hb dX11_token_92 (by decide) (fun hb_7 => ?_) (fun hb_7 => ?_)
    · have hf := zif_t hb_7 hf
      exact k_Mo_token_b113 C0 s0 v2 hk78 hA hP hD hS hf _ (lv_sub hl [0, 1] rfl)
    · have hf := zif_f hb_7 hf
      refine lv_aload_n hx hb dX11_token_95 rfl (lv_at hl 0 rfl) ?_
      refine lv_aload_n hx hb dX11_token_96 rfl (lv_at hl 0 rfl) ?_
      refine zget (v := .long (zL s0 9)) hx hb hown hT hK hP inX11 rfl smX11 0 rfl 9 (by decide) tb_1011 rfl dX11_token_97 ?_
      refine lv_bipush (v := 8) hx hb dX11_token_100 (by decide) ?_
      refine lv_lshl (v := (zL s0 9) <<< (Int32.toInt64 8 &&& 63)) hx hb dX11_token_102 rfl ?_
      refine lv_aload_n hx hb dX11_token_103 rfl (lv_at hl 0 rfl) ?_
      refine lv_iload_n hx hb dX11_token_104 rfl (lv_at hl 1 rfl) ?_
      obtain ⟨z8, hc9, hf⟩ := zbd_some hf
      refine zri (zV (As := [.int v2]) hx hb hml hown hT hl.1 (c_Mo_here o0 a0 s0 v2 hc9) zY_Mo_here tb_1220 (zpR hK hP [0, 1] rfl 0 11 rfl rfl rfl) rm_ok_Mo_token_Mo_here rfl rfl (Nat.le_of_ble_eq_true rfl) dX11_token_105 ⟨Nat.zero_le _, Nat.zero_le _⟩) ?_
      refine lv_i2l (v := Int32.toInt64 z8) hx hb dX11_token_108 rfl ?_
      refine lv_lor hx hb dX11_token_109 ?_
      refine zput (fs' := fs_Mo a0 (zI s0) (vp_updL (zL s0) 9 (((zL s0 9) <<< (Int32.toInt64 8 &&& 63)) ||| (Int32.toInt64 z8)))) (ws' := (wd_Mo_token cy o0 a0 (zI s0) (vp_updL (zL s0) 9 (((zL s0 9) <<< (Int32.toInt64 8 &&& 63)) ||| (Int32.toInt64 z8))) (zA s0 0))) hx hb hown hT hK hP hD hS inX11 rfl smX11 tyX11_ok nmX11 0 rfl 9 (by decide) tb_1011 rfl rfl rfl (Nat.le_of_ble_eq_true rfl) rfl rfl dX11_token_110 (fun H locs hP hD hS => ?_)
      exact k_Mo_token_b113 C0 (zpL s0 9 (((zL s0 9) <<< (Int32.toInt64 8 &&& 63)) ||| (Int32.toInt64 z8))) v2 hk78 hA hP hD hS hf _ (lv_sub hl [0, 1] rfl)
set_option maxHeartbeats 4000000 in
set_option maxRecDepth 100000 in
theorem k_Mo_token_h78 {p : Program} {l : Launch} {e : Env} {s : State} {m : MethodId} {args : Array Value} {below : List Frame} {meth : Method} {c : Code} {dC : Nat → ClassId} {dI : Nat → Nat → Nat} {cy : Nat → ClassId} {A : Nat → Prop} {o0 : Nat} {a0 : Nat → Nat} {N : Nat} {y : zSt} (C0 : zCx p s m args meth c cX11_token 3 none RX11 (dC, dI) cy) (hA : ∀ q, s.heap.size ≤ q → A q) : ∀ (n : Nat) (s0 : zSt) (v2 : Int32) {H : Heap} {locs : List Loc} (hP : va_P (dC, dI) vwCl (wd_Mo_token cy o0 a0 (zI s0) (zL s0) (zA s0 0)) H) (hD : va_D A (wd_Mo_token cy o0 a0 (zI s0) (zL s0) (zA s0 0))) (hS : va_S A s.heap H locs) (hf : Mo_token_h78 N n s0 v2 = some y) (ls : Array Slot) (hl : lv_has ls 3 [(0, .ref o0), (2, .int v2)]), W p l e rm_Mo_token s m args below meth c H locs 0 0 (MQ below (zQv (dC, dI) cy (wd_Mo_token cy o0 a0 (zI y) (zL y) (zA y 0)) A) args s 0 0 A) (F0 m 78 ls []) := by
  intro n
  induction n with
  | zero => intro s0 v2 H locs hP hD hS hf; cases hf
  | succ n ih =>
    intro s0 v2 H locs hP hD hS hf ls hl
    have hf : Mo_token_b78 N (Mo_token_h78 N n) s0 v2 = some y := hf
    exact k_Mo_token_b78 C0 s0 v2 (fun s0 v2 _ _ hP hD hS hf ls hl => ih s0 v2 hP hD hS hf ls hl) hA hP hD hS hf ls hl
set_option maxHeartbeats 4000000 in
set_option maxRecDepth 100000 in
theorem k_Mo_token_b20 {p : Program} {l : Launch} {e : Env} {s : State} {m : MethodId} {args : Array Value} {below : List Frame} {meth : Method} {c : Code} {dC : Nat → ClassId} {dI : Nat → Nat → Nat} {cy : Nat → ClassId} {A : Nat → Prop} {o0 : Nat} {a0 : Nat → Nat} {N : Nat} {kh0 : zSt → Option (zSt)} {y : zSt} (C0 : zCx p s m args meth c cX11_token 3 none RX11 (dC, dI) cy) (s0 : zSt) (hk0 : ∀ (s0 : zSt) {H : Heap} {locs : List Loc} (_ : va_P (dC, dI) vwCl (wd_Mo_token cy o0 a0 (zI s0) (zL s0) (zA s0 0)) H) (_ : va_D A (wd_Mo_token cy o0 a0 (zI s0) (zL s0) (zA s0 0))) (_ : va_S A s.heap H locs) (_ : kh0 s0 = some y) (ls : Array Slot) (_ : lv_has ls 3 [(0, .ref o0)]), W p l e rm_Mo_token s m args below meth c H locs 0 0 (MQ below (zQv (dC, dI) cy (wd_Mo_token cy o0 a0 (zI y) (zL y) (zA y 0)) A) args s 0 0 A) (F0 m 0 ls [])) (hA : ∀ q, s.heap.size ≤ q → A q) {H : Heap} {locs : List Loc} (hP : va_P (dC, dI) vwCl (wd_Mo_token cy o0 a0 (zI s0) (zL s0) (zA s0 0)) H) (hD : va_D A (wd_Mo_token cy o0 a0 (zI s0) (zL s0) (zA s0 0))) (hS : va_S A s.heap H locs) (hf : Mo_token_b20 N kh0 s0 = some y) (ls : Array Slot) (hl : lv_has ls 3 [(0, .ref o0)]) : W p l e rm_Mo_token s m args below meth c H locs 0 0 (MQ below (zQv (dC, dI) cy (wd_Mo_token cy o0 a0 (zI y) (zL y) (zA y 0)) A) args s 0 0 A) (F0 m 20 ls []) := by
  obtain ⟨hx, hb, hr, hml, hown, hT, hk, hK⟩ := id C0
  refine lv_aload_n hx hb dX11_token_20 rfl (lv_at hl 0 rfl) ?_
  refine lv_dup hx hb dX11_token_21 rfl ?_
  refine zget (v := .int (zI s0 4)) hx hb hown hT hK hP inX11 rfl smX11 0 rfl 4 (by decide) tb_1006 rfl dX11_token_22 ?_
  refine lv_iconst (v := 1) hx hb dX11_token_25 (by decide) ?_
  refine lv_iadd hx hb dX11_token_26 ?_
  refine zput (fs' := fs_Mo a0 (upd (zI s0) 4 ((zI s0 4) + 1)) (zL s0)) (ws' := (wd_Mo_token cy o0 a0 (upd (zI s0) 4 ((zI s0 4) + 1)) (zL s0) (zA s0 0))) hx hb hown hT hK hP hD hS inX11 rfl smX11 tyX11_ok nmX11 0 rfl 4 (by decide) tb_1006 rfl rfl rfl (Nat.le_of_ble_eq_true rfl) rfl rfl dX11_token_27 (fun H locs hP hD hS => ?_)
  refine lv_goto (tgt := 0) hx hb dX11_token_30 (by decide) ?_
  exact hk0 (zpI s0 4 ((zI s0 4) + 1)) hP hD hS hf _ (lv_sub hl [0] rfl)
set_option maxHeartbeats 4000000 in
set_option maxRecDepth 100000 in
theorem k_Mo_token_b0 {p : Program} {l : Launch} {e : Env} {s : State} {m : MethodId} {args : Array Value} {below : List Frame} {meth : Method} {c : Code} {dC : Nat → ClassId} {dI : Nat → Nat → Nat} {cy : Nat → ClassId} {A : Nat → Prop} {o0 : Nat} {a0 : Nat → Nat} {N : Nat} {kh0 : zSt → Option (zSt)} {y : zSt} (C0 : zCx p s m args meth c cX11_token 3 none RX11 (dC, dI) cy) (s0 : zSt) (hk0 : ∀ (s0 : zSt) {H : Heap} {locs : List Loc} (_ : va_P (dC, dI) vwCl (wd_Mo_token cy o0 a0 (zI s0) (zL s0) (zA s0 0)) H) (_ : va_D A (wd_Mo_token cy o0 a0 (zI s0) (zL s0) (zA s0 0))) (_ : va_S A s.heap H locs) (_ : kh0 s0 = some y) (ls : Array Slot) (_ : lv_has ls 3 [(0, .ref o0)]), W p l e rm_Mo_token s m args below meth c H locs 0 0 (MQ below (zQv (dC, dI) cy (wd_Mo_token cy o0 a0 (zI y) (zL y) (zA y 0)) A) args s 0 0 A) (F0 m 0 ls [])) (hA : ∀ q, s.heap.size ≤ q → A q) {H : Heap} {locs : List Loc} (hP : va_P (dC, dI) vwCl (wd_Mo_token cy o0 a0 (zI s0) (zL s0) (zA s0 0)) H) (hD : va_D A (wd_Mo_token cy o0 a0 (zI s0) (zL s0) (zA s0 0))) (hS : va_S A s.heap H locs) (hf : Mo_token_b0 N kh0 s0 = some y) (ls : Array Slot) (hl : lv_has ls 3 [(0, .ref o0)]) : W p l e rm_Mo_token s m args below meth c H locs 0 0 (MQ below (zQv (dC, dI) cy (wd_Mo_token cy o0 a0 (zI y) (zL y) (zA y 0)) A) args s 0 0 A) (F0 m 0 ls []) := by
  obtain ⟨hx, hb, hr, hml, hown, hT, hk, hK⟩ := id C0
  refine lv_aload_n hx hb dX11_token_0 rfl (lv_at hl 0 rfl) ?_
  refine lv_iconst (v := 0) hx hb dX11_token_1 (by decide) ?_
  obtain ⟨z1, hc2, hf⟩ := zbd_some hf
  refine zri (zV (As := [.int 0]) hx hb hml hown hT hl.1 (c_Mo_here o0 a0 s0 0 hc2) zY_Mo_here tb_1220 (zpR hK hP [0, 1] rfl 0 11 rfl rfl rfl) rm_ok_Mo_token_Mo_here rfl rfl (Nat.le_of_ble_eq_true rfl) dX11_token_2 ⟨Nat.zero_le _, Nat.zero_le _⟩) ?_
  refine lv_bipush (v := 32) hx hb dX11_token_5 (by decide) ?_
  refine lv_icmp_eq (tgt := 20) hx hb dX11_token_7 (by decide) (fun hb_3 => ?_) (fun hb_3 => ?_)
  · have hf := zif_t hb_3 hf
    exact k_Mo_token_b20 C0 s0 hk0 hA hP hD hS hf _ (lv_sub hl [0] rfl)
  · have hf := zif_f hb_3 hf
    refine lv_aload_n hx hb dX11_token_10 rfl (lv_at hl 0 rfl) ?_
    refine lv_iconst (v := 0) hx hb dX11_token_11 (by decide) ?_
    obtain ⟨z4, hc5, hf⟩ := zbd_some hf
    refine zri (zV (As := [.int 0]) hx hb hml hown hT hl.1 (c_Mo_here o0 a0 s0 0 hc5) zY_Mo_here tb_1220 (zpR hK hP [0, 1] rfl 0 11 rfl rfl rfl) rm_ok_Mo_token_Mo_here rfl rfl (Nat.le_of_ble_eq_true rfl) dX11_token_12 ⟨Nat.zero_le _, Nat.zero_le _⟩) ?_
    refine lv_bipush (v := 10) hx hb dX11_token_15 (by decide) ?_
    refine lv_icmp_ne (tgt := 33) hx hb dX11_token_17 (by decide) (fun hb_6 => ?_) (fun hb_6 => ?_)
    · have hf := zif_f hb_6 hf
      refine lv_aload_n hx hb dX11_token_33 rfl (lv_at hl 0 rfl) ?_
      refine lv_aload_n hx hb dX11_token_34 rfl (lv_at hl 0 rfl) ?_
      refine zget (v := .int (zI s0 4)) hx hb hown hT hK hP inX11 rfl smX11 0 rfl 4 (by decide) tb_1006 rfl dX11_token_35 ?_
      refine zput (fs' := fs_Mo a0 (upd (zI s0) 7 (zI s0 4)) (zL s0)) (ws' := (wd_Mo_token cy o0 a0 (upd (zI s0) 7 (zI s0 4)) (zL s0) (zA s0 0))) hx hb hown hT hK hP hD hS inX11 rfl smX11 tyX11_ok nmX11 0 rfl 7 (by decide) tb_1009 rfl rfl rfl (Nat.le_of_ble_eq_true rfl) rfl rfl dX11_token_38 (fun H locs hP hD hS => ?_)
      refine lv_aload_n hx hb dX11_token_41 rfl (lv_at hl 0 rfl) ?_
      refine lv_iconst (v := 0) hx hb dX11_token_42 (by decide) ?_
      obtain ⟨z7, hc8, hf⟩ := zbd_some hf
      refine zri (zV (As := [.int 0]) hx hb hml hown hT hl.1 (c_Mo_here o0 a0 (zpI s0 7 (zI s0 4)) 0 hc8) zY_Mo_here tb_1220 (zpR hK hP [0, 1] rfl 0 11 rfl rfl rfl) rm_ok_Mo_token_Mo_here rfl rfl (Nat.le_of_ble_eq_true rfl) dX11_token_43 ⟨Nat.zero_le _, Nat.zero_le _⟩) ?_
      refine lv_istore_n (lv' := [(1, .int z7), (0, .ref o0)]) hx hb dX11_token_46 rfl hl (by decide) rfl (fun ls hl => ?_)
      refine lv_iconst (v := 0) hx hb dX11_token_47 (by decide) ?_
      refine lv_istore_n (lv' := [(2, .int 0), (1, .int z7), (0, .ref o0)]) hx hb dX11_token_48 rfl hl (by decide) rfl (fun ls hl => ?_)
      refine lv_aload_n hx hb dX11_token_49 rfl (lv_at hl 2 rfl) ?_
      refine lv_lconst (v := 0) hx hb dX11_token_50 rfl ?_
      refine zput (fs' := fs_Mo a0 (upd (zI s0) 7 (zI s0 4)) (vp_updL (zL s0) 9 0)) (ws' := (wd_Mo_token cy o0 a0 (upd (zI s0) 7 (zI s0 4)) (vp_updL (zL s0) 9 0) (zA s0 0))) hx hb hown hT hK hP hD hS inX11 rfl smX11 tyX11_ok nmX11 0 rfl 9 (by decide) tb_1011 rfl rfl rfl (Nat.le_of_ble_eq_true rfl) rfl rfl dX11_token_51 (fun H locs hP hD hS => ?_)
      refine lv_aload_n hx hb dX11_token_54 rfl (lv_at hl 2 rfl) ?_
      refine lv_iconst (v := 0) hx hb dX11_token_55 (by decide) ?_
      refine zput (fs' := fs_Mo a0 (upd (upd (zI s0) 7 (zI s0 4)) 8 0) (vp_updL (zL s0) 9 0)) (ws' := (wd_Mo_token cy o0 a0 (upd (upd (zI s0) 7 (zI s0 4)) 8 0) (vp_updL (zL s0) 9 0) (zA s0 0))) hx hb hown hT hK hP hD hS inX11 rfl smX11 tyX11_ok nmX11 0 rfl 8 (by decide) tb_1010 rfl rfl rfl (Nat.le_of_ble_eq_true rfl) rfl rfl dX11_token_56 (fun H locs hP hD hS => ?_)
      refine lv_iload_n hx hb dX11_token_59 rfl (lv_at hl 1 rfl) ?_
      refine lv_if_ge (tgt := 71) hx hb dX11_token_60 (by decide) (fun hb_9 => ?_) (fun hb_9 => ?_)
      · have hf := zif_t hb_9 hf
        refine lv_iload_n hx hb dX11_token_71 rfl (lv_at hl 1 rfl) ?_
        obtain ⟨z10, hc11, hf⟩ := zbd_some hf
        refine zri (zS (As := [.int z7]) hx hb hml hown hT hl.1 (c_Mo_isLetter z7 hc11) zY_Mo_isLetter tb_1224 (zpS hK hP [] rfl) rm_ok_Mo_token_Mo_isLetter rfl rfl (Nat.le_of_ble_eq_true rfl) dX11_token_72 ⟨Nat.zero_le _, Nat.zero_le _⟩) ?_
        refine lv_if_eq (tgt := 137) hx hb dX11_token_75 (by decide) (fun hb_12 => ?_) (fun hb_12 => ?_)
        · have hf := zif_t hb_12 hf
          refine lv_iload_n hx hb dX11_token_137 rfl (lv_at hl 1 rfl) ?_
          obtain ⟨z13, hc14, hf⟩ := zbd_some hf
          refine zri (zS (As := [.int z7]) hx hb hml hown hT hl.1 (c_Mo_isDigit z7 hc14) zY_Mo_isDigit tb_1227 (zpS hK hP [] rfl) rm_ok_Mo_token_Mo_isDigit rfl rfl (Nat.le_of_ble_eq_true rfl) dX11_token_138 ⟨Nat.zero_le _, Nat.zero_le _⟩) ?_
          refine lv_if_eq (tgt := 214) hx hb dX11_token_141 (by decide) (fun hb_15 => ?_) (fun hb_15 => ?_)
          · have hf := zif_t hb_15 hf
            refine lv_iconst (v := 1) hx hb dX11_token_214 (by decide) ?_
            refine lv_istore_n (lv' := [(2, .int 1), (1, .int z7), (0, .ref o0)]) hx hb dX11_token_215 rfl hl (by decide) rfl (fun ls hl => ?_)
            refine lv_aload_n hx hb dX11_token_216 rfl (lv_at hl 2 rfl) ?_
            refine lv_iload_n hx hb dX11_token_217 rfl (lv_at hl 1 rfl) ?_
            refine lv_bipush (v := 59) hx hb dX11_token_218 (by decide) ?_
            refine lv_icmp_ne (tgt := 227) hx hb dX11_token_220 (by decide) (fun hb_16 => ?_) (fun hb_16 => ?_)
            · have hf := zif_f hb_16 hf
              refine lv_iconst (v := 3) hx hb dX11_token_227 (by decide) ?_
              exact k_Mo_token_b228 C0 (zpI (zpL (zpI s0 7 (zI s0 4)) 9 0) 8 0) 1 3  hA hP hD hS hf _ (lv_sub hl [2, 0] rfl)
            · have hf := zif_t hb_16 hf
              refine lv_iload_n hx hb dX11_token_223 rfl (lv_at hl 1 rfl) ?_
              refine lv_goto (tgt := 228) hx hb dX11_token_224 (by decide) ?_
              exact k_Mo_token_b228 C0 (zpI (zpL (zpI s0 7 (zI s0 4)) 9 0) 8 0) 1 z7  hA hP hD hS hf _ (lv_sub hl [2, 0] rfl)
          · have hf := zif_f hb_15 hf
            exact k_Mo_token_h144 C0   hA N (zpI (zpL (zpI s0 7 (zI s0 4)) 9 0) 8 0) 0 hP hD hS hf _ (lv_sub hl [2, 0] rfl)
        · have hf := zif_f hb_12 hf
          exact k_Mo_token_h78 C0   hA N (zpI (zpL (zpI s0 7 (zI s0 4)) 9 0) 8 0) 0 hP hD hS hf _ (lv_sub hl [2, 0] rfl)
      · have hf := zif_f hb_9 hf
        refine lv_aload_n hx hb dX11_token_63 rfl (lv_at hl 2 rfl) ?_
        refine lv_iconst (v := 0) hx hb dX11_token_64 (by decide) ?_
        refine zput (fs' := fs_Mo a0 (upd (upd (upd (zI s0) 7 (zI s0 4)) 8 0) 6 0) (vp_updL (zL s0) 9 0)) (ws' := (wd_Mo_token cy o0 a0 (upd (upd (upd (zI s0) 7 (zI s0 4)) 8 0) 6 0) (vp_updL (zL s0) 9 0) (zA s0 0))) hx hb hown hT hK hP hD hS inX11 rfl smX11 tyX11_ok nmX11 0 rfl 6 (by decide) tb_1008 rfl rfl rfl (Nat.le_of_ble_eq_true rfl) rfl rfl dX11_token_65 (fun H locs hP hD hS => ?_)
        refine lv_goto (tgt := 231) hx hb dX11_token_68 (by decide) ?_
        exact k_Mo_token_b231 C0 (zpI (zpI (zpL (zpI s0 7 (zI s0 4)) 9 0) 8 0) 6 0) 0  hA hP hD hS hf _ (lv_sub hl [2, 0] rfl)
    · have hf := zif_t hb_6 hf
      exact k_Mo_token_b20 C0 s0 hk0 hA hP hD hS hf _ (lv_sub hl [0] rfl)
set_option maxHeartbeats 4000000 in
set_option maxRecDepth 100000 in
theorem k_Mo_token_h0 {p : Program} {l : Launch} {e : Env} {s : State} {m : MethodId} {args : Array Value} {below : List Frame} {meth : Method} {c : Code} {dC : Nat → ClassId} {dI : Nat → Nat → Nat} {cy : Nat → ClassId} {A : Nat → Prop} {o0 : Nat} {a0 : Nat → Nat} {N : Nat} {y : zSt} (C0 : zCx p s m args meth c cX11_token 3 none RX11 (dC, dI) cy) (hA : ∀ q, s.heap.size ≤ q → A q) : ∀ (n : Nat) (s0 : zSt) {H : Heap} {locs : List Loc} (hP : va_P (dC, dI) vwCl (wd_Mo_token cy o0 a0 (zI s0) (zL s0) (zA s0 0)) H) (hD : va_D A (wd_Mo_token cy o0 a0 (zI s0) (zL s0) (zA s0 0))) (hS : va_S A s.heap H locs) (hf : Mo_token_h0 N n s0 = some y) (ls : Array Slot) (hl : lv_has ls 3 [(0, .ref o0)]), W p l e rm_Mo_token s m args below meth c H locs 0 0 (MQ below (zQv (dC, dI) cy (wd_Mo_token cy o0 a0 (zI y) (zL y) (zA y 0)) A) args s 0 0 A) (F0 m 0 ls []) := by
  intro n
  induction n with
  | zero => intro s0 H locs hP hD hS hf; cases hf
  | succ n ih =>
    intro s0 H locs hP hD hS hf ls hl
    have hf : Mo_token_b0 N (Mo_token_h0 N n) s0 = some y := hf
    exact k_Mo_token_b0 C0 s0 (fun s0 _ _ hP hD hS hf ls hl => ih s0 hP hD hS hf ls hl) hA hP hD hS hf ls hl
set_option maxHeartbeats 4000000 in
set_option maxRecDepth 100000 in
theorem c_Mo_token {l : Launch} {dC : Nat → ClassId} {dI : Nat → Nat → Nat} {cy : Nat → ClassId} {sz : Nat} {N : Nat} (o0 : Nat) (a0 : Nat → Nat) (s0 : zSt) {y : zSt} (hf : Mo_token N s0 = some y) : Met l yX11_token (.code yX11_token cX11_token 3 none :: zt) rm_Mo_token (va_Pc [.ref o0] (zPre (dC, dI) cy (wd_Mo_token cy o0 a0 (zI s0) (zL s0) (zA s0 0)) sz)) (zQv (dC, dI) cy (wd_Mo_token cy o0 a0 (zI y) (zL y) (zA y 0)) (va_A (wd_Mo_token cy o0 a0 (zI s0) (zL s0) (zA s0 0)) sz)) 0 0 (va_A (wd_Mo_token cy o0 a0 (zI s0) (zL s0) (zA s0 0)) sz) :=
  zentW (Qw := fun A => (zQv (dC, dI) cy (wd_Mo_token cy o0 a0 (zI y) (zL y) (zA y 0)) A)) (by decide +kernel) (Nat.le_of_ble_eq_true rfl) (fun p e s m below meth c A C0 hA hP hD hS ls hl => k_Mo_token_h0 C0  hA N s0 hP hD hS hf ls hl)
def wd_Mo_wrong (cy : Nat → ClassId) (o0 : Nat) (a0 : Nat → Nat) (g0 : Nat → Int32) (h0 : Nat → Int64) : va_W := [(o0, .inr (11, fs_Mo a0 g0 h0))]
def rm_Mo_wrong : Room := { frames := 1, cells := 0, slots := 0, locals := 40 }
set_option maxHeartbeats 4000000 in
set_option maxRecDepth 100000 in
theorem k_Mo_wrong_b22 {p : Program} {l : Launch} {e : Env} {s : State} {m : MethodId} {args : Array Value} {below : List Frame} {meth : Method} {c : Code} {dC : Nat → ClassId} {dI : Nat → Nat → Nat} {cy : Nat → ClassId} {A : Nat → Prop} {o0 : Nat} {a0 : Nat → Nat} {N : Nat} {y : zSt} (C0 : zCx p s m args meth c cX11_wrong 2 none RX11 (dC, dI) cy) (s0 : zSt) (t1 : Int32) (hA : ∀ q, s.heap.size ≤ q → A q) {H : Heap} {locs : List Loc} (hP : va_P (dC, dI) vwCl (wd_Mo_wrong cy o0 a0 (zI s0) (zL s0)) H) (hD : va_D A (wd_Mo_wrong cy o0 a0 (zI s0) (zL s0))) (hS : va_S A s.heap H locs) (hf : Mo_wrong_b22 N s0 t1 = some y) (ls : Array Slot) (hl : lv_has ls 2 [(0, .ref o0)]) : W p l e rm_Mo_wrong s m args below meth c H locs 0 0 (MQ below (zQv (dC, dI) cy (wd_Mo_wrong cy o0 a0 (zI y) (zL y)) A) args s 0 0 A) (F0 m 22 ls [.int t1, .ref o0]) := by
  obtain ⟨hx, hb, hr, hml, hown, hT, hk, hK⟩ := id C0
  refine zput (fs' := fs_Mo a0 (upd (zI s0) 2 t1) (zL s0)) (ws' := (wd_Mo_wrong cy o0 a0 (upd (zI s0) 2 t1) (zL s0))) hx hb hown hT hK hP hD hS inX11 rfl smX11 tyX11_ok nmX11 0 rfl 2 (by decide) tb_1004 rfl rfl rfl (Nat.le_of_ble_eq_true rfl) rfl rfl dX11_wrong_22 (fun H locs hP hD hS => ?_)
  refine lv_aload_n hx hb dX11_wrong_25 rfl (lv_at hl 0 rfl) ?_
  refine lv_aload_n hx hb dX11_wrong_26 rfl (lv_at hl 0 rfl) ?_
  refine zget (v := .int (zI s0 7)) hx hb hown hT hK hP inX11 rfl smX11 0 rfl 7 (by decide) tb_1009 rfl dX11_wrong_27 ?_
  refine zput (fs' := fs_Mo a0 (upd (upd (zI s0) 2 t1) 3 (zI s0 7)) (zL s0)) (ws' := (wd_Mo_wrong cy o0 a0 (upd (upd (zI s0) 2 t1) 3 (zI s0 7)) (zL s0))) hx hb hown hT hK hP hD hS inX11 rfl smX11 tyX11_ok nmX11 0 rfl 3 (by decide) tb_1005 rfl rfl rfl (Nat.le_of_ble_eq_true rfl) rfl rfl dX11_wrong_30 (fun H locs hP hD hS => ?_)
  cases hf
  exact zewv hx hb hr hk hK hP hD hS dX11_wrong_33
set_option maxHeartbeats 4000000 in
set_option maxRecDepth 100000 in
theorem k_Mo_wrong_b0 {p : Program} {l : Launch} {e : Env} {s : State} {m : MethodId} {args : Array Value} {below : List Frame} {meth : Method} {c : Code} {dC : Nat → ClassId} {dI : Nat → Nat → Nat} {cy : Nat → ClassId} {A : Nat → Prop} {o0 : Nat} {a0 : Nat → Nat} {N : Nat} {y : zSt} (C0 : zCx p s m args meth c cX11_wrong 2 none RX11 (dC, dI) cy) (s0 : zSt) (v1 : Int32) (hA : ∀ q, s.heap.size ≤ q → A q) {H : Heap} {locs : List Loc} (hP : va_P (dC, dI) vwCl (wd_Mo_wrong cy o0 a0 (zI s0) (zL s0)) H) (hD : va_D A (wd_Mo_wrong cy o0 a0 (zI s0) (zL s0))) (hS : va_S A s.heap H locs) (hf : Mo_wrong_b0 N s0 v1 = some y) (ls : Array Slot) (hl : lv_has ls 2 [(0, .ref o0), (1, .int v1)]) : W p l e rm_Mo_wrong s m args below meth c H locs 0 0 (MQ below (zQv (dC, dI) cy (wd_Mo_wrong cy o0 a0 (zI y) (zL y)) A) args s 0 0 A) (F0 m 0 ls []) := by
  obtain ⟨hx, hb, hr, hml, hown, hT, hk, hK⟩ := id C0
  refine lv_aload_n hx hb dX11_wrong_0 rfl (lv_at hl 0 rfl) ?_
  refine zget (v := .int (zI s0 2)) hx hb hown hT hK hP inX11 rfl smX11 0 rfl 2 (by decide) tb_1004 rfl dX11_wrong_1 ?_
  refine lv_if_le (tgt := 8) hx hb dX11_wrong_4 (by decide) (fun hb_1 => ?_) (fun hb_1 => ?_)
  · have hf := zif_t hb_1 hf
    refine lv_aload_n hx hb dX11_wrong_8 rfl (lv_at hl 0 rfl) ?_
    refine lv_aload_n hx hb dX11_wrong_9 rfl (lv_at hl 0 rfl) ?_
    refine zget (v := .int (zI s0 6)) hx hb hown hT hK hP inX11 rfl smX11 0 rfl 6 (by decide) tb_1008 rfl dX11_wrong_10 ?_
    refine lv_iconst (v := 3) hx hb dX11_wrong_13 (by decide) ?_
    refine lv_icmp_ne (tgt := 21) hx hb dX11_wrong_14 (by decide) (fun hb_2 => ?_) (fun hb_2 => ?_)
    · have hf := zif_f hb_2 hf
      refine lv_iload_n hx hb dX11_wrong_21 rfl (lv_at hl 1 rfl) ?_
      exact k_Mo_wrong_b22 C0 s0 v1  hA hP hD hS hf _ (lv_sub hl [0] rfl)
    · have hf := zif_t hb_2 hf
      refine lv_iconst (v := 1) hx hb dX11_wrong_17 (by decide) ?_
      refine lv_goto (tgt := 22) hx hb dX11_wrong_18 (by decide) ?_
      exact k_Mo_wrong_b22 C0 s0 1  hA hP hD hS hf _ (lv_sub hl [0] rfl)
  · have hf := zif_f hb_1 hf
    cases hf
    exact zewv hx hb hr hk hK hP hD hS dX11_wrong_7
set_option maxHeartbeats 4000000 in
set_option maxRecDepth 100000 in
theorem c_Mo_wrong {l : Launch} {dC : Nat → ClassId} {dI : Nat → Nat → Nat} {cy : Nat → ClassId} {sz : Nat} {N : Nat} (o0 : Nat) (a0 : Nat → Nat) (s0 : zSt) (v1 : Int32) {y : zSt} (hf : Mo_wrong N s0 v1 = some y) : Met l yX11_wrong (.code yX11_wrong cX11_wrong 2 none :: zt) rm_Mo_wrong (va_Pc [.ref o0, .int v1] (zPre (dC, dI) cy (wd_Mo_wrong cy o0 a0 (zI s0) (zL s0)) sz)) (zQv (dC, dI) cy (wd_Mo_wrong cy o0 a0 (zI y) (zL y)) (va_A (wd_Mo_wrong cy o0 a0 (zI s0) (zL s0)) sz)) 0 0 (va_A (wd_Mo_wrong cy o0 a0 (zI s0) (zL s0)) sz) :=
  zentW (Qw := fun A => (zQv (dC, dI) cy (wd_Mo_wrong cy o0 a0 (zI y) (zL y)) A)) (by decide +kernel) (Nat.le_of_ble_eq_true rfl) (fun p e s m below meth c A C0 hA hP hD hS ls hl => k_Mo_wrong_b0 C0 s0 v1 hA hP hD hS hf ls hl)
def wd_Mo_isWord (cy : Nat → ClassId) (o0 : Nat) (a0 : Nat → Nat) (g0 : Nat → Int32) (h0 : Nat → Int64) : va_W := [(o0, .inr (11, fs_Mo a0 g0 h0))]
def rm_Mo_isWord : Room := { frames := 1, cells := 0, slots := 0, locals := 40 }
set_option maxHeartbeats 4000000 in
set_option maxRecDepth 100000 in
theorem k_Mo_isWord_b0 {p : Program} {l : Launch} {e : Env} {s : State} {m : MethodId} {args : Array Value} {below : List Frame} {meth : Method} {c : Code} {dC : Nat → ClassId} {dI : Nat → Nat → Nat} {cy : Nat → ClassId} {o0 : Nat} {a0 : Nat → Nat} {N : Nat} {y : Int32} (C0 : zCx p s m args meth c cX11_isWord 3 (some .boolean) RX11 (dC, dI) cy) (s0 : zSt) (v1 : Int64) (hP : va_P (dC, dI) vwCl (wd_Mo_isWord cy o0 a0 (zI s0) (zL s0)) s.heap) (hf : Mo_isWord_b0 N s0 v1 = some y) (ls : Array Slot) (hl : lv_has ls 3 [(0, .ref o0), (1, .long v1)]) : W p l e rm_Mo_isWord s m args below meth c s.heap [] 0 0 (MQ below (zSi y) args s 0 0 (fun _ => False)) (F0 m 0 ls []) := by
  obtain ⟨hx, hb, hr, hml, hown, hT, hk, hK⟩ := id C0
  refine lv_aload_n hx hb dX11_isWord_0 rfl (lv_at hl 0 rfl) ?_
  refine zget (v := .int (zI s0 6)) hx hb hown hT hK hP inX11 rfl smX11 0 rfl 6 (by decide) tb_1008 rfl dX11_isWord_1 ?_
  refine lv_iconst (v := 1) hx hb dX11_isWord_4 (by decide) ?_
  refine lv_icmp_ne (tgt := 21) hx hb dX11_isWord_5 (by decide) (fun hb_1 => ?_) (fun hb_1 => ?_)
  · have hf := zif_f hb_1 hf
    refine lv_iconst (v := 0) hx hb dX11_isWord_21 (by decide) ?_
    cases hf
    exact zerz hx hb hr hk (Or.inl rfl) dX11_isWord_22
  · have hf := zif_t hb_1 hf
    refine lv_aload_n hx hb dX11_isWord_8 rfl (lv_at hl 0 rfl) ?_
    refine zget (v := .long (zL s0 9)) hx hb hown hT hK hP inX11 rfl smX11 0 rfl 9 (by decide) tb_1011 rfl dX11_isWord_9 ?_
    refine lv_lload_n hx hb dX11_isWord_12 rfl (lv_at hl 1 rfl) ?_
    refine W.lcmp hx hb dX11_isWord_13 ?_
    refine lv_if_ne (tgt := 21) hx hb dX11_isWord_14 (by decide) (fun hb_2 => ?_) (fun hb_2 => ?_)
    · have hf := zif_f hb_2 hf
      refine lv_iconst (v := 0) hx hb dX11_isWord_21 (by decide) ?_
      cases hf
      exact zerz hx hb hr hk (Or.inl rfl) dX11_isWord_22
    · have hf := zif_t hb_2 hf
      refine lv_iconst (v := 1) hx hb dX11_isWord_17 (by decide) ?_
      refine lv_goto (tgt := 22) hx hb dX11_isWord_18 (by decide) ?_
      cases hf
      exact zerz hx hb hr hk (Or.inr rfl) dX11_isWord_22
set_option maxHeartbeats 4000000 in
set_option maxRecDepth 100000 in
theorem c_Mo_isWord {l : Launch} {dC : Nat → ClassId} {dI : Nat → Nat → Nat} {cy : Nat → ClassId} {N : Nat} (o0 : Nat) (a0 : Nat → Nat) (s0 : zSt) (v1 : Int64) {y : Int32} (hf : Mo_isWord N s0 v1 = some y) : Met l yX11_isWord (.code yX11_isWord cX11_isWord 3 (some .boolean) :: zt) rm_Mo_isWord (va_Pc [.ref o0, .long v1] (zRd (dC, dI) cy (wd_Mo_isWord cy o0 a0 (zI s0) (zL s0)))) (zSi y) 0 0 (fun _ => False) :=
  zentR (by decide +kernel) (Nat.le_of_ble_eq_true rfl) (fun p e s m below meth c C0 hP ls hl => k_Mo_isWord_b0 C0 s0 v1 hP hf ls hl)
def wd_Mo_isName (cy : Nat → ClassId) (o0 : Nat) (a0 : Nat → Nat) (g0 : Nat → Int32) (h0 : Nat → Int64) : va_W := [(o0, .inr (11, fs_Mo a0 g0 h0))]
def rm_Mo_isName : Room := { frames := 1, cells := 0, slots := 0, locals := 40 }
set_option maxHeartbeats 4000000 in
set_option maxRecDepth 100000 in
theorem k_Mo_isName_b0 {p : Program} {l : Launch} {e : Env} {s : State} {m : MethodId} {args : Array Value} {below : List Frame} {meth : Method} {c : Code} {dC : Nat → ClassId} {dI : Nat → Nat → Nat} {cy : Nat → ClassId} {o0 : Nat} {a0 : Nat → Nat} {N : Nat} {y : Int32} (C0 : zCx p s m args meth c cX11_isName 1 (some .boolean) RX11 (dC, dI) cy) (s0 : zSt) (hP : va_P (dC, dI) vwCl (wd_Mo_isName cy o0 a0 (zI s0) (zL s0)) s.heap) (hf : Mo_isName_b0 N s0 = some y) (ls : Array Slot) (hl : lv_has ls 1 [(0, .ref o0)]) : W p l e rm_Mo_isName s m args below meth c s.heap [] 0 0 (MQ below (zSi y) args s 0 0 (fun _ => False)) (F0 m 0 ls []) := by
  obtain ⟨hx, hb, hr, hml, hown, hT, hk, hK⟩ := id C0
  refine lv_aload_n hx hb dX11_isName_0 rfl (lv_at hl 0 rfl) ?_
  refine zget (v := .int (zI s0 6)) hx hb hown hT hK hP inX11 rfl smX11 0 rfl 6 (by decide) tb_1008 rfl dX11_isName_1 ?_
  refine lv_iconst (v := 1) hx hb dX11_isName_4 (by decide) ?_
  refine lv_icmp_ne (tgt := 111) hx hb dX11_isName_5 (by decide) (fun hb_1 => ?_) (fun hb_1 => ?_)
  · have hf := zif_f hb_1 hf
    refine lv_iconst (v := 0) hx hb dX11_isName_111 (by decide) ?_
    cases hf
    exact zerz hx hb hr hk (Or.inl rfl) dX11_isName_112
  · have hf := zif_t hb_1 hf
    refine lv_aload_n hx hb dX11_isName_8 rfl (lv_at hl 0 rfl) ?_
    refine zget (v := .long (zL s0 9)) hx hb hown hT hK hP inX11 rfl smX11 0 rfl 9 (by decide) tb_1011 rfl dX11_isName_9 ?_
    refine lv_ldc2 (v := 1751478884) hx hb hown (hT _ tb_1234) dX11_isName_12 ?_
    refine W.lcmp hx hb dX11_isName_15 ?_
    refine lv_if_eq (tgt := 111) hx hb dX11_isName_16 (by decide) (fun hb_2 => ?_) (fun hb_2 => ?_)
    · have hf := zif_t hb_2 hf
      refine lv_iconst (v := 0) hx hb dX11_isName_111 (by decide) ?_
      cases hf
      exact zerz hx hb hr hk (Or.inl rfl) dX11_isName_112
    · have hf := zif_f hb_2 hf
      refine lv_aload_n hx hb dX11_isName_19 rfl (lv_at hl 0 rfl) ?_
      refine zget (v := .long (zL s0 9)) hx hb hown hT hK hP inX11 rfl smX11 0 rfl 9 (by decide) tb_1011 rfl dX11_isName_20 ?_
      refine lv_ldc2 (v := 422607680372) hx hb hown (hT _ tb_1251) dX11_isName_23 ?_
      refine W.lcmp hx hb dX11_isName_26 ?_
      refine lv_if_eq (tgt := 111) hx hb dX11_isName_27 (by decide) (fun hb_3 => ?_) (fun hb_3 => ?_)
      · have hf := zif_t hb_3 hf
        refine lv_iconst (v := 0) hx hb dX11_isName_111 (by decide) ?_
        cases hf
        exact zerz hx hb hr hk (Or.inl rfl) dX11_isName_112
      · have hf := zif_f hb_3 hf
        refine lv_aload_n hx hb dX11_isName_30 rfl (lv_at hl 0 rfl) ?_
        refine zget (v := .long (zL s0 9)) hx hb hown hT hK hP inX11 rfl smX11 0 rfl 9 (by decide) tb_1011 rfl dX11_isName_31 ?_
        refine lv_ldc2 (v := 28518) hx hb hown (hT _ tb_1252) dX11_isName_34 ?_
        refine W.lcmp hx hb dX11_isName_37 ?_
        refine lv_if_eq (tgt := 111) hx hb dX11_isName_38 (by decide) (fun hb_4 => ?_) (fun hb_4 => ?_)
        · have hf := zif_t hb_4 hf
          refine lv_iconst (v := 0) hx hb dX11_isName_111 (by decide) ?_
          cases hf
          exact zerz hx hb hr hk (Or.inl rfl) dX11_isName_112
        · have hf := zif_f hb_4 hf
          refine lv_aload_n hx hb dX11_isName_41 rfl (lv_at hl 0 rfl) ?_
          refine zget (v := .long (zL s0 9)) hx hb hown hT hK hP inX11 rfl smX11 0 rfl 9 (by decide) tb_1011 rfl dX11_isName_42 ?_
          refine lv_ldc2 (v := 1650814060) hx hb hown (hT _ tb_1253) dX11_isName_45 ?_
          refine W.lcmp hx hb dX11_isName_48 ?_
          refine lv_if_eq (tgt := 111) hx hb dX11_isName_49 (by decide) (fun hb_5 => ?_) (fun hb_5 => ?_)
          · have hf := zif_t hb_5 hf
            refine lv_iconst (v := 0) hx hb dX11_isName_111 (by decide) ?_
            cases hf
            exact zerz hx hb hr hk (Or.inl rfl) dX11_isName_112
          · have hf := zif_f hb_5 hf
            refine lv_aload_n hx hb dX11_isName_52 rfl (lv_at hl 0 rfl) ?_
            refine zget (v := .long (zL s0 9)) hx hb hown hT hK hP inX11 rfl smX11 0 rfl 9 (by decide) tb_1011 rfl dX11_isName_53 ?_
            refine lv_ldc2 (v := 1819243876) hx hb hown (hT _ tb_1254) dX11_isName_56 ?_
            refine W.lcmp hx hb dX11_isName_59 ?_
            refine lv_if_eq (tgt := 111) hx hb dX11_isName_60 (by decide) (fun hb_6 => ?_) (fun hb_6 => ?_)
            · have hf := zif_t hb_6 hf
              refine lv_iconst (v := 0) hx hb dX11_isName_111 (by decide) ?_
              cases hf
              exact zerz hx hb hr hk (Or.inl rfl) dX11_isName_112
            · have hf := zif_f hb_6 hf
              refine lv_aload_n hx hb dX11_isName_63 rfl (lv_at hl 0 rfl) ?_
              refine zget (v := .long (zL s0 9)) hx hb hown hT hK hP inX11 rfl smX11 0 rfl 9 (by decide) tb_1011 rfl dX11_isName_64 ?_
              refine lv_ldc2 (v := 8319400174449812850) hx hb hown (hT _ tb_1255) dX11_isName_67 ?_
              refine W.lcmp hx hb dX11_isName_70 ?_
              refine lv_if_eq (tgt := 111) hx hb dX11_isName_71 (by decide) (fun hb_7 => ?_) (fun hb_7 => ?_)
              · have hf := zif_t hb_7 hf
                refine lv_iconst (v := 0) hx hb dX11_isName_111 (by decide) ?_
                cases hf
                exact zerz hx hb hr hk (Or.inl rfl) dX11_isName_112
              · have hf := zif_f hb_7 hf
                refine lv_aload_n hx hb dX11_isName_74 rfl (lv_at hl 0 rfl) ?_
                refine zget (v := .long (zL s0 9)) hx hb hown hT hK hP inX11 rfl smX11 0 rfl 9 (by decide) tb_1011 rfl dX11_isName_75 ?_
                refine lv_ldc2 (v := 6644082) hx hb hown (hT _ tb_1256) dX11_isName_78 ?_
                refine W.lcmp hx hb dX11_isName_81 ?_
                refine lv_if_eq (tgt := 111) hx hb dX11_isName_82 (by decide) (fun hb_8 => ?_) (fun hb_8 => ?_)
                · have hf := zif_t hb_8 hf
                  refine lv_iconst (v := 0) hx hb dX11_isName_111 (by decide) ?_
                  cases hf
                  exact zerz hx hb hr hk (Or.inl rfl) dX11_isName_112
                · have hf := zif_f hb_8 hf
                  refine lv_aload_n hx hb dX11_isName_85 rfl (lv_at hl 0 rfl) ?_
                  refine zget (v := .long (zL s0 9)) hx hb hown hT hK hP inX11 rfl smX11 0 rfl 9 (by decide) tb_1011 rfl dX11_isName_86 ?_
                  refine lv_ldc2 (v := 24948) hx hb hown (hT _ tb_1257) dX11_isName_89 ?_
                  refine W.lcmp hx hb dX11_isName_92 ?_
                  refine lv_if_eq (tgt := 111) hx hb dX11_isName_93 (by decide) (fun hb_9 => ?_) (fun hb_9 => ?_)
                  · have hf := zif_t hb_9 hf
                    refine lv_iconst (v := 0) hx hb dX11_isName_111 (by decide) ?_
                    cases hf
                    exact zerz hx hb hr hk (Or.inl rfl) dX11_isName_112
                  · have hf := zif_f hb_9 hf
                    refine lv_aload_n hx hb dX11_isName_96 rfl (lv_at hl 0 rfl) ?_
                    refine zget (v := .long (zL s0 9)) hx hb hown hT hK hP inX11 rfl smX11 0 rfl 9 (by decide) tb_1011 rfl dX11_isName_97 ?_
                    refine lv_ldc2 (v := 108187867505765) hx hb hown (hT _ tb_1258) dX11_isName_100 ?_
                    refine W.lcmp hx hb dX11_isName_103 ?_
                    refine lv_if_eq (tgt := 111) hx hb dX11_isName_104 (by decide) (fun hb_10 => ?_) (fun hb_10 => ?_)
                    · have hf := zif_t hb_10 hf
                      refine lv_iconst (v := 0) hx hb dX11_isName_111 (by decide) ?_
                      cases hf
                      exact zerz hx hb hr hk (Or.inl rfl) dX11_isName_112
                    · have hf := zif_f hb_10 hf
                      refine lv_iconst (v := 1) hx hb dX11_isName_107 (by decide) ?_
                      refine lv_goto (tgt := 112) hx hb dX11_isName_108 (by decide) ?_
                      cases hf
                      exact zerz hx hb hr hk (Or.inr rfl) dX11_isName_112
set_option maxHeartbeats 4000000 in
set_option maxRecDepth 100000 in
theorem c_Mo_isName {l : Launch} {dC : Nat → ClassId} {dI : Nat → Nat → Nat} {cy : Nat → ClassId} {N : Nat} (o0 : Nat) (a0 : Nat → Nat) (s0 : zSt) {y : Int32} (hf : Mo_isName N s0 = some y) : Met l yX11_isName (.code yX11_isName cX11_isName 1 (some .boolean) :: zt) rm_Mo_isName (va_Pc [.ref o0] (zRd (dC, dI) cy (wd_Mo_isName cy o0 a0 (zI s0) (zL s0)))) (zSi y) 0 0 (fun _ => False) :=
  zentR (by decide +kernel) (Nat.le_of_ble_eq_true rfl) (fun p e s m below meth c C0 hP ls hl => k_Mo_isName_b0 C0 s0 hP hf ls hl)
def wd_Mo_want (cy : Nat → ClassId) (o0 : Nat) (a0 : Nat → Nat) (g0 : Nat → Int32) (h0 : Nat → Int64) (x0_0 : Nat → Int32) : va_W := [(o0, .inr (11, fs_Mo a0 g0 h0)), (a0 0, .inl (cy 0, 1500, .inl x0_0))]
def rm_Mo_want : Room := { frames := 3, cells := 0, slots := 0, locals := 83 }
theorem rm_ok_Mo_want_Mo_isWord : rm_Mo_isWord.cells = 0 ∧ rm_Mo_isWord.slots = 0 ∧ rm_Mo_isWord.frames + 1 ≤ rm_Mo_want.frames ∧ 8 + (3 + 11) + rm_Mo_isWord.locals ≤ rm_Mo_want.locals := by decide
theorem rm_ok_Mo_want_Mo_token : rm_Mo_token.cells = 0 ∧ rm_Mo_token.slots = 0 ∧ rm_Mo_token.frames + 1 ≤ rm_Mo_want.frames ∧ 8 + (3 + 11) + rm_Mo_token.locals ≤ rm_Mo_want.locals := by decide
theorem rm_ok_Mo_want_Mo_wrong : rm_Mo_wrong.cells = 0 ∧ rm_Mo_wrong.slots = 0 ∧ rm_Mo_wrong.frames + 1 ≤ rm_Mo_want.frames ∧ 8 + (2 + 11) + rm_Mo_wrong.locals ≤ rm_Mo_want.locals := by decide
set_option maxHeartbeats 4000000 in
set_option maxRecDepth 100000 in
theorem k_Mo_want_b0 {p : Program} {l : Launch} {e : Env} {s : State} {m : MethodId} {args : Array Value} {below : List Frame} {meth : Method} {c : Code} {dC : Nat → ClassId} {dI : Nat → Nat → Nat} {cy : Nat → ClassId} {A : Nat → Prop} {o0 : Nat} {a0 : Nat → Nat} {N : Nat} {y : zSt} (C0 : zCx p s m args meth c cX11_want 3 none RX11 (dC, dI) cy) (s0 : zSt) (v1 : Int64) (hA : ∀ q, s.heap.size ≤ q → A q) {H : Heap} {locs : List Loc} (hP : va_P (dC, dI) vwCl (wd_Mo_want cy o0 a0 (zI s0) (zL s0) (zA s0 0)) H) (hD : va_D A (wd_Mo_want cy o0 a0 (zI s0) (zL s0) (zA s0 0))) (hS : va_S A s.heap H locs) (hf : Mo_want_b0 N s0 v1 = some y) (ls : Array Slot) (hl : lv_has ls 3 [(0, .ref o0), (1, .long v1)]) : W p l e rm_Mo_want s m args below meth c H locs 0 0 (MQ below (zQv (dC, dI) cy (wd_Mo_want cy o0 a0 (zI y) (zL y) (zA y 0)) A) args s 0 0 A) (F0 m 0 ls []) := by
  obtain ⟨hx, hb, hr, hml, hown, hT, hk, hK⟩ := id C0
  refine lv_aload_n hx hb dX11_want_0 rfl (lv_at hl 0 rfl) ?_
  refine zget (v := .int (zI s0 2)) hx hb hown hT hK hP inX11 rfl smX11 0 rfl 2 (by decide) tb_1004 rfl dX11_want_1 ?_
  refine lv_if_le (tgt := 8) hx hb dX11_want_4 (by decide) (fun hb_1 => ?_) (fun hb_1 => ?_)
  · have hf := zif_t hb_1 hf
    refine lv_aload_n hx hb dX11_want_8 rfl (lv_at hl 0 rfl) ?_
    refine lv_lload_n hx hb dX11_want_9 rfl (lv_at hl 1 rfl) ?_
    obtain ⟨z2, hc3, hf⟩ := zbd_some hf
    refine zri (zV (As := [.long v1]) hx hb hml hown hT hl.1 (c_Mo_isWord o0 a0 s0 v1 hc3) zY_Mo_isWord tb_1235 (zpR hK hP [0] rfl 0 11 rfl rfl rfl) rm_ok_Mo_want_Mo_isWord rfl rfl (Nat.le_of_ble_eq_true rfl) dX11_want_10 ⟨Nat.zero_le _, Nat.zero_le _⟩) ?_
    refine lv_if_ne (tgt := 24) hx hb dX11_want_13 (by decide) (fun hb_4 => ?_) (fun hb_4 => ?_)
    · have hf := zif_f hb_4 hf
      refine lv_aload_n hx hb dX11_want_24 rfl (lv_at hl 0 rfl) ?_
      obtain ⟨z5, hc6, hf⟩ := zbd_some hf
      refine zwv (wr := []) (ws' := (wd_Mo_want cy o0 a0 (zI z5) (zL z5) (zA z5 0))) (zV (As := []) hx hb hml hown hT hl.1 (c_Mo_token o0 a0 s0 hc6) zY_Mo_token tb_1216 (zpRw hK hP hD [0, 1] (by decide) rfl 0 11 rfl rfl rfl rfl) rm_ok_Mo_want_Mo_token rfl rfl (Nat.le_of_ble_eq_true rfl) dX11_want_25 ⟨Nat.zero_le _, Nat.zero_le _⟩) hP hD hS hA [0, 1] [] [0, 1] rfl rfl (by decide) (by decide) (by decide) rfl rfl (fun H locs hP hD hS => ?_)
      cases hf
      exact zewv hx hb hr hk hK hP hD hS dX11_want_28
    · have hf := zif_t hb_4 hf
      refine lv_aload_n hx hb dX11_want_16 rfl (lv_at hl 0 rfl) ?_
      refine lv_iconst (v := 2) hx hb dX11_want_17 (by decide) ?_
      obtain ⟨z7, hc8, hf⟩ := zbd_some hf
      refine zwv (wr := [(a0 0, .inl (cy 0, 1500, .inl (zA s0 0)))]) (ws' := (wd_Mo_want cy o0 a0 (zI z7) (zL z7) (zA s0 0))) (zV (As := [.int 2]) hx hb hml hown hT hl.1 (c_Mo_wrong o0 a0 s0 2 hc8) zY_Mo_wrong tb_1259 (zpRw hK hP hD [0] (by decide) rfl 0 11 rfl rfl rfl rfl) rm_ok_Mo_want_Mo_wrong rfl rfl (Nat.le_of_ble_eq_true rfl) dX11_want_18 ⟨Nat.zero_le _, Nat.zero_le _⟩) hP hD hS hA [0] [1] [1, 0] rfl rfl (by decide) (by decide) (by decide) rfl rfl (fun H locs hP hD hS => ?_)
      refine lv_goto (tgt := 28) hx hb dX11_want_21 (by decide) ?_
      cases hf
      exact zewv hx hb hr hk hK hP hD hS dX11_want_28
  · have hf := zif_f hb_1 hf
    cases hf
    exact zewv hx hb hr hk hK hP hD hS dX11_want_7
set_option maxHeartbeats 4000000 in
set_option maxRecDepth 100000 in
theorem c_Mo_want {l : Launch} {dC : Nat → ClassId} {dI : Nat → Nat → Nat} {cy : Nat → ClassId} {sz : Nat} {N : Nat} (o0 : Nat) (a0 : Nat → Nat) (s0 : zSt) (v1 : Int64) {y : zSt} (hf : Mo_want N s0 v1 = some y) : Met l yX11_want (.code yX11_want cX11_want 3 none :: zt) rm_Mo_want (va_Pc [.ref o0, .long v1] (zPre (dC, dI) cy (wd_Mo_want cy o0 a0 (zI s0) (zL s0) (zA s0 0)) sz)) (zQv (dC, dI) cy (wd_Mo_want cy o0 a0 (zI y) (zL y) (zA y 0)) (va_A (wd_Mo_want cy o0 a0 (zI s0) (zL s0) (zA s0 0)) sz)) 0 0 (va_A (wd_Mo_want cy o0 a0 (zI s0) (zL s0) (zA s0 0)) sz) :=
  zentW (Qw := fun A => (zQv (dC, dI) cy (wd_Mo_want cy o0 a0 (zI y) (zL y) (zA y 0)) A)) (by decide +kernel) (Nat.le_of_ble_eq_true rfl) (fun p e s m below meth c A C0 hA hP hD hS ls hl => k_Mo_want_b0 C0 s0 v1 hA hP hD hS hf ls hl)
def wd_Mo_toldNumber (cy : Nat → ClassId) (o0 : Nat) (a0 : Nat → Nat) (g0 : Nat → Int32) (h0 : Nat → Int64) (x0_0 : Nat → Int32) : va_W := [(o0, .inr (11, fs_Mo a0 g0 h0)), (a0 0, .inl (cy 0, 1500, .inl x0_0))]
def rm_Mo_toldNumber : Room := { frames := 3, cells := 0, slots := 0, locals := 83 }
theorem rm_ok_Mo_toldNumber_Mo_token : rm_Mo_token.cells = 0 ∧ rm_Mo_token.slots = 0 ∧ rm_Mo_token.frames + 1 ≤ rm_Mo_toldNumber.frames ∧ 8 + (3 + 11) + rm_Mo_token.locals ≤ rm_Mo_toldNumber.locals := by decide
theorem rm_ok_Mo_toldNumber_Mo_wrong : rm_Mo_wrong.cells = 0 ∧ rm_Mo_wrong.slots = 0 ∧ rm_Mo_wrong.frames + 1 ≤ rm_Mo_toldNumber.frames ∧ 8 + (2 + 11) + rm_Mo_wrong.locals ≤ rm_Mo_toldNumber.locals := by decide
set_option maxHeartbeats 4000000 in
set_option maxRecDepth 100000 in
theorem k_Mo_toldNumber_b46 {p : Program} {l : Launch} {e : Env} {s : State} {m : MethodId} {args : Array Value} {below : List Frame} {meth : Method} {c : Code} {dC : Nat → ClassId} {dI : Nat → Nat → Nat} {cy : Nat → ClassId} {A : Nat → Prop} {o0 : Nat} {a0 : Nat → Nat} {N : Nat} {y : Int32 × zSt} (C0 : zCx p s m args meth c cX11_toldNumber 4 (some .int) RX11 (dC, dI) cy) (s0 : zSt) (hA : ∀ q, s.heap.size ≤ q → A q) {H : Heap} {locs : List Loc} (hP : va_P (dC, dI) vwCl (wd_Mo_toldNumber cy o0 a0 (zI s0) (zL s0) (zA s0 0)) H) (hD : va_D A (wd_Mo_toldNumber cy o0 a0 (zI s0) (zL s0) (zA s0 0))) (hS : va_S A s.heap H locs) (hf : Mo_toldNumber_b46 N s0 = some y) (ls : Array Slot) (hl : lv_has ls 4 [(0, .ref o0)]) : W p l e rm_Mo_toldNumber s m args below meth c H locs 0 0 (MQ below (zQi y.1 (dC, dI) cy (wd_Mo_toldNumber cy o0 a0 (zI y.2) (zL y.2) (zA y.2 0)) A) args s 0 0 A) (F0 m 46 ls []) := by
  obtain ⟨hx, hb, hr, hml, hown, hT, hk, hK⟩ := id C0
  refine lv_aload_n hx hb dX11_toldNumber_46 rfl (lv_at hl 0 rfl) ?_
  refine zget (v := .int (zI s0 8)) hx hb hown hT hK hP inX11 rfl smX11 0 rfl 8 (by decide) tb_1010 rfl dX11_toldNumber_47 ?_
  refine lv_istore_n (lv' := [(3, .int (zI s0 8)), (0, .ref o0)]) hx hb dX11_toldNumber_50 rfl hl (by decide) rfl (fun ls hl => ?_)
  refine lv_aload_n hx hb dX11_toldNumber_51 rfl (lv_at hl 1 rfl) ?_
  refine zget (v := .int (zI s0 2)) hx hb hown hT hK hP inX11 rfl smX11 0 rfl 2 (by decide) tb_1004 rfl dX11_toldNumber_52 ?_
  refine lv_if_ne (tgt := 62) hx hb dX11_toldNumber_55 (by decide) (fun hb_1 => ?_) (fun hb_1 => ?_)
  · have hf := zif_f hb_1 hf
    refine lv_iload_n hx hb dX11_toldNumber_62 rfl (lv_at hl 0 rfl) ?_
    cases hf
    exact zewi hx hb hr hk hK hP hD hS dX11_toldNumber_63
  · have hf := zif_t hb_1 hf
    refine lv_aload_n hx hb dX11_toldNumber_58 rfl (lv_at hl 1 rfl) ?_
    obtain ⟨z2, hc3, hf⟩ := zbd_some hf
    refine zwv (wr := []) (ws' := (wd_Mo_toldNumber cy o0 a0 (zI z2) (zL z2) (zA z2 0))) (zV (As := []) hx hb hml hown hT hl.1 (c_Mo_token o0 a0 s0 hc3) zY_Mo_token tb_1216 (zpRw hK hP hD [0, 1] (by decide) rfl 0 11 rfl rfl rfl rfl) rm_ok_Mo_toldNumber_Mo_token rfl rfl (Nat.le_of_ble_eq_true rfl) dX11_toldNumber_59 ⟨Nat.zero_le _, Nat.zero_le _⟩) hP hD hS hA [0, 1] [] [0, 1] rfl rfl (by decide) (by decide) (by decide) rfl rfl (fun H locs hP hD hS => ?_)
    refine lv_iload_n hx hb dX11_toldNumber_62 rfl (lv_at hl 0 rfl) ?_
    cases hf
    exact zewi hx hb hr hk hK hP hD hS dX11_toldNumber_63
set_option maxHeartbeats 4000000 in
set_option maxRecDepth 100000 in
theorem k_Mo_toldNumber_b41 {p : Program} {l : Launch} {e : Env} {s : State} {m : MethodId} {args : Array Value} {below : List Frame} {meth : Method} {c : Code} {dC : Nat → ClassId} {dI : Nat → Nat → Nat} {cy : Nat → ClassId} {A : Nat → Prop} {o0 : Nat} {a0 : Nat → Nat} {N : Nat} {y : Int32 × zSt} (C0 : zCx p s m args meth c cX11_toldNumber 4 (some .int) RX11 (dC, dI) cy) (s0 : zSt) (hA : ∀ q, s.heap.size ≤ q → A q) {H : Heap} {locs : List Loc} (hP : va_P (dC, dI) vwCl (wd_Mo_toldNumber cy o0 a0 (zI s0) (zL s0) (zA s0 0)) H) (hD : va_D A (wd_Mo_toldNumber cy o0 a0 (zI s0) (zL s0) (zA s0 0))) (hS : va_S A s.heap H locs) (hf : Mo_toldNumber_b41 N s0 = some y) (ls : Array Slot) (hl : lv_has ls 4 [(0, .ref o0)]) : W p l e rm_Mo_toldNumber s m args below meth c H locs 0 0 (MQ below (zQi y.1 (dC, dI) cy (wd_Mo_toldNumber cy o0 a0 (zI y.2) (zL y.2) (zA y.2 0)) A) args s 0 0 A) (F0 m 41 ls []) := by
  obtain ⟨hx, hb, hr, hml, hown, hT, hk, hK⟩ := id C0
  refine lv_aload_n hx hb dX11_toldNumber_41 rfl (lv_at hl 0 rfl) ?_
  refine lv_iconst (v := 4) hx hb dX11_toldNumber_42 (by decide) ?_
  obtain ⟨z1, hc2, hf⟩ := zbd_some hf
  refine zwv (wr := [(a0 0, .inl (cy 0, 1500, .inl (zA s0 0)))]) (ws' := (wd_Mo_toldNumber cy o0 a0 (zI z1) (zL z1) (zA s0 0))) (zV (As := [.int 4]) hx hb hml hown hT hl.1 (c_Mo_wrong o0 a0 s0 4 hc2) zY_Mo_wrong tb_1259 (zpRw hK hP hD [0] (by decide) rfl 0 11 rfl rfl rfl rfl) rm_ok_Mo_toldNumber_Mo_wrong rfl rfl (Nat.le_of_ble_eq_true rfl) dX11_toldNumber_43 ⟨Nat.zero_le _, Nat.zero_le _⟩) hP hD hS hA [0] [1] [1, 0] rfl rfl (by decide) (by decide) (by decide) rfl rfl (fun H locs hP hD hS => ?_)
  exact k_Mo_toldNumber_b46 C0 (zmg [0] z1 s0)  hA hP hD hS hf _ (lv_sub hl [0] rfl)
set_option maxHeartbeats 4000000 in
set_option maxRecDepth 100000 in
theorem k_Mo_toldNumber_b0 {p : Program} {l : Launch} {e : Env} {s : State} {m : MethodId} {args : Array Value} {below : List Frame} {meth : Method} {c : Code} {dC : Nat → ClassId} {dI : Nat → Nat → Nat} {cy : Nat → ClassId} {A : Nat → Prop} {o0 : Nat} {a0 : Nat → Nat} {N : Nat} {y : Int32 × zSt} (C0 : zCx p s m args meth c cX11_toldNumber 4 (some .int) RX11 (dC, dI) cy) (s0 : zSt) (v1 : Int32) (v2 : Int32) (hA : ∀ q, s.heap.size ≤ q → A q) {H : Heap} {locs : List Loc} (hP : va_P (dC, dI) vwCl (wd_Mo_toldNumber cy o0 a0 (zI s0) (zL s0) (zA s0 0)) H) (hD : va_D A (wd_Mo_toldNumber cy o0 a0 (zI s0) (zL s0) (zA s0 0))) (hS : va_S A s.heap H locs) (hf : Mo_toldNumber_b0 N s0 v1 v2 = some y) (ls : Array Slot) (hl : lv_has ls 4 [(0, .ref o0), (1, .int v1), (2, .int v2)]) : W p l e rm_Mo_toldNumber s m args below meth c H locs 0 0 (MQ below (zQi y.1 (dC, dI) cy (wd_Mo_toldNumber cy o0 a0 (zI y.2) (zL y.2) (zA y.2 0)) A) args s 0 0 A) (F0 m 0 ls []) := by
  obtain ⟨hx, hb, hr, hml, hown, hT, hk, hK⟩ := id C0
  refine lv_aload_n hx hb dX11_toldNumber_0 rfl (lv_at hl 0 rfl) ?_
  refine zget (v := .int (zI s0 2)) hx hb hown hT hK hP inX11 rfl smX11 0 rfl 2 (by decide) tb_1004 rfl dX11_toldNumber_1 ?_
  refine lv_if_le (tgt := 9) hx hb dX11_toldNumber_4 (by decide) (fun hb_1 => ?_) (fun hb_1 => ?_)
  · have hf := zif_t hb_1 hf
    refine lv_aload_n hx hb dX11_toldNumber_9 rfl (lv_at hl 0 rfl) ?_
    refine zget (v := .int (zI s0 6)) hx hb hown hT hK hP inX11 rfl smX11 0 rfl 6 (by decide) tb_1008 rfl dX11_toldNumber_10 ?_
    refine lv_iconst (v := 2) hx hb dX11_toldNumber_13 (by decide) ?_
    refine lv_icmp_eq (tgt := 25) hx hb dX11_toldNumber_14 (by decide) (fun hb_2 => ?_) (fun hb_2 => ?_)
    · have hf := zif_t hb_2 hf
      refine lv_aload_n hx hb dX11_toldNumber_25 rfl (lv_at hl 0 rfl) ?_
      refine zget (v := .int (zI s0 8)) hx hb hown hT hK hP inX11 rfl smX11 0 rfl 8 (by decide) tb_1010 rfl dX11_toldNumber_26 ?_
      refine lv_iload_n hx hb dX11_toldNumber_29 rfl (lv_at hl 1 rfl) ?_
      refine lv_icmp_lt (tgt := 41) hx hb dX11_toldNumber_30 (by decide) (fun hb_3 => ?_) (fun hb_3 => ?_)
      · have hf := zif_t hb_3 hf
        exact k_Mo_toldNumber_b41 C0 s0  hA hP hD hS hf _ (lv_sub hl [0] rfl)
      · have hf := zif_f hb_3 hf
        refine lv_aload_n hx hb dX11_toldNumber_33 rfl (lv_at hl 0 rfl) ?_
        refine zget (v := .int (zI s0 8)) hx hb hown hT hK hP inX11 rfl smX11 0 rfl 8 (by decide) tb_1010 rfl dX11_toldNumber_34 ?_
        refine lv_iload_n hx hb dX11_toldNumber_37 rfl (lv_at hl 2 rfl) ?_
        refine lv_icmp_le (tgt := 46) hx hb dX11_toldNumber_38 (by decide) (fun hb_4 => ?_) (fun hb_4 => ?_)
        · have hf := zif_t hb_4 hf
          exact k_Mo_toldNumber_b46 C0 s0  hA hP hD hS hf _ (lv_sub hl [0] rfl)
        · have hf := zif_f hb_4 hf
          exact k_Mo_toldNumber_b41 C0 s0  hA hP hD hS hf _ (lv_sub hl [0] rfl)
    · have hf := zif_f hb_2 hf
      refine lv_aload_n hx hb dX11_toldNumber_17 rfl (lv_at hl 0 rfl) ?_
      refine lv_iconst (v := 2) hx hb dX11_toldNumber_18 (by decide) ?_
      obtain ⟨z5, hc6, hf⟩ := zbd_some hf
      refine zwv (wr := [(a0 0, .inl (cy 0, 1500, .inl (zA s0 0)))]) (ws' := (wd_Mo_toldNumber cy o0 a0 (zI z5) (zL z5) (zA s0 0))) (zV (As := [.int 2]) hx hb hml hown hT hl.1 (c_Mo_wrong o0 a0 s0 2 hc6) zY_Mo_wrong tb_1259 (zpRw hK hP hD [0] (by decide) rfl 0 11 rfl rfl rfl rfl) rm_ok_Mo_toldNumber_Mo_wrong rfl rfl (Nat.le_of_ble_eq_true rfl) dX11_toldNumber_19 ⟨Nat.zero_le _, Nat.zero_le _⟩) hP hD hS hA [0] [1] [1, 0] rfl rfl (by decide) (by decide) (by decide) rfl rfl (fun H locs hP hD hS => ?_)
      refine lv_goto (tgt := 46) hx hb dX11_toldNumber_22 (by decide) ?_
      exact k_Mo_toldNumber_b46 C0 (zmg [0] z5 s0)  hA hP hD hS hf _ (lv_sub hl [0] rfl)
  · have hf := zif_f hb_1 hf
    refine lv_iconst (v := 0) hx hb dX11_toldNumber_7 (by decide) ?_
    cases hf
    exact zewi hx hb hr hk hK hP hD hS dX11_toldNumber_8
set_option maxHeartbeats 4000000 in
set_option maxRecDepth 100000 in
theorem c_Mo_toldNumber {l : Launch} {dC : Nat → ClassId} {dI : Nat → Nat → Nat} {cy : Nat → ClassId} {sz : Nat} {N : Nat} (o0 : Nat) (a0 : Nat → Nat) (s0 : zSt) (v1 : Int32) (v2 : Int32) {y : Int32 × zSt} (hf : Mo_toldNumber N s0 v1 v2 = some y) : Met l yX11_toldNumber (.code yX11_toldNumber cX11_toldNumber 4 (some .int) :: zt) rm_Mo_toldNumber (va_Pc [.ref o0, .int v1, .int v2] (zPre (dC, dI) cy (wd_Mo_toldNumber cy o0 a0 (zI s0) (zL s0) (zA s0 0)) sz)) (zQi y.1 (dC, dI) cy (wd_Mo_toldNumber cy o0 a0 (zI y.2) (zL y.2) (zA y.2 0)) (va_A (wd_Mo_toldNumber cy o0 a0 (zI s0) (zL s0) (zA s0 0)) sz)) 0 0 (va_A (wd_Mo_toldNumber cy o0 a0 (zI s0) (zL s0) (zA s0 0)) sz) :=
  zentW (Qw := fun A => (zQi y.1 (dC, dI) cy (wd_Mo_toldNumber cy o0 a0 (zI y.2) (zL y.2) (zA y.2 0)) A)) (by decide +kernel) (Nat.le_of_ble_eq_true rfl) (fun p e s m below meth c A C0 hA hP hD hS ls hl => k_Mo_toldNumber_b0 C0 s0 v1 v2 hA hP hD hS hf ls hl)
def wd_Mo_told (cy : Nat → ClassId) (o0 : Nat) (a0 : Nat → Nat) (g0 : Nat → Int32) (h0 : Nat → Int64) (x0_0 : Nat → Int32) : va_W := [(o0, .inr (11, fs_Mo a0 g0 h0)), (a0 0, .inl (cy 0, 1500, .inl x0_0))]
def rm_Mo_told : Room := { frames := 4, cells := 0, slots := 0, locals := 106 }
theorem rm_ok_Mo_told_Mo_toldNumber : rm_Mo_toldNumber.cells = 0 ∧ rm_Mo_toldNumber.slots = 0 ∧ rm_Mo_toldNumber.frames + 1 ≤ rm_Mo_told.frames ∧ 8 + (4 + 11) + rm_Mo_toldNumber.locals ≤ rm_Mo_told.locals := by decide
theorem rm_ok_Mo_told_Mo_want : rm_Mo_want.cells = 0 ∧ rm_Mo_want.slots = 0 ∧ rm_Mo_want.frames + 1 ≤ rm_Mo_told.frames ∧ 8 + (3 + 11) + rm_Mo_want.locals ≤ rm_Mo_told.locals := by decide
set_option maxHeartbeats 4000000 in
set_option maxRecDepth 100000 in
theorem k_Mo_told_b0 {p : Program} {l : Launch} {e : Env} {s : State} {m : MethodId} {args : Array Value} {below : List Frame} {meth : Method} {c : Code} {dC : Nat → ClassId} {dI : Nat → Nat → Nat} {cy : Nat → ClassId} {A : Nat → Prop} {o0 : Nat} {a0 : Nat → Nat} {N : Nat} {y : Int32 × zSt} (C0 : zCx p s m args meth c cX11_told 5 (some .int) RX11 (dC, dI) cy) (s0 : zSt) (v1 : Int64) (v3 : Int32) (v4 : Int32) (hA : ∀ q, s.heap.size ≤ q → A q) {H : Heap} {locs : List Loc} (hP : va_P (dC, dI) vwCl (wd_Mo_told cy o0 a0 (zI s0) (zL s0) (zA s0 0)) H) (hD : va_D A (wd_Mo_told cy o0 a0 (zI s0) (zL s0) (zA s0 0))) (hS : va_S A s.heap H locs) (hf : Mo_told_b0 N s0 v1 v3 v4 = some y) (ls : Array Slot) (hl : lv_has ls 5 [(0, .ref o0), (1, .long v1), (3, .int v3), (4, .int v4)]) : W p l e rm_Mo_told s m args below meth c H locs 0 0 (MQ below (zQi y.1 (dC, dI) cy (wd_Mo_told cy o0 a0 (zI y.2) (zL y.2) (zA y.2 0)) A) args s 0 0 A) (F0 m 0 ls []) := by
  obtain ⟨hx, hb, hr, hml, hown, hT, hk, hK⟩ := id C0
  refine lv_aload_n hx hb dX11_told_0 rfl (lv_at hl 0 rfl) ?_
  refine lv_lload_n hx hb dX11_told_1 rfl (lv_at hl 1 rfl) ?_
  obtain ⟨z1, hc2, hf⟩ := zbd_some hf
  refine zwv (wr := []) (ws' := (wd_Mo_told cy o0 a0 (zI z1) (zL z1) (zA z1 0))) (zV (As := [.long v1]) hx hb hml hown hT hl.1 (c_Mo_want o0 a0 s0 v1 hc2) zY_Mo_want tb_1271 (zpRw hK hP hD [0, 1] (by decide) rfl 0 11 rfl rfl rfl rfl) rm_ok_Mo_told_Mo_want rfl rfl (Nat.le_of_ble_eq_true rfl) dX11_told_2 ⟨Nat.zero_le _, Nat.zero_le _⟩) hP hD hS hA [0, 1] [] [0, 1] rfl rfl (by decide) (by decide) (by decide) rfl rfl (fun H locs hP hD hS => ?_)
  refine lv_aload_n hx hb dX11_told_5 rfl (lv_at hl 0 rfl) ?_
  refine lv_iload_n hx hb dX11_told_6 rfl (lv_at hl 2 rfl) ?_
  refine lv_iload hx hb dX11_told_7 (lv_at hl 3 rfl) ?_
  obtain ⟨z3, hc4, hf⟩ := zbd_some hf
  refine zwi (wr := []) (ws' := (wd_Mo_told cy o0 a0 (zI z3.2) (zL z3.2) (zA z3.2 0))) (zV (As := [.int v3, .int v4]) hx hb hml hown hT hl.1 (c_Mo_toldNumber o0 a0 z1 v3 v4 hc4) zY_Mo_toldNumber tb_1283 (zpRw hK hP hD [0, 1] (by decide) rfl 0 11 rfl rfl rfl rfl) rm_ok_Mo_told_Mo_toldNumber rfl rfl (Nat.le_of_ble_eq_true rfl) dX11_told_9 ⟨Nat.zero_le _, Nat.zero_le _⟩) hP hD hS hA [0, 1] [] [0, 1] rfl rfl (by decide) (by decide) (by decide) rfl rfl (fun H locs hP hD hS => ?_)
  cases hf
  exact zewi hx hb hr hk hK hP hD hS dX11_told_12
set_option maxHeartbeats 4000000 in
set_option maxRecDepth 100000 in
theorem c_Mo_told {l : Launch} {dC : Nat → ClassId} {dI : Nat → Nat → Nat} {cy : Nat → ClassId} {sz : Nat} {N : Nat} (o0 : Nat) (a0 : Nat → Nat) (s0 : zSt) (v1 : Int64) (v3 : Int32) (v4 : Int32) {y : Int32 × zSt} (hf : Mo_told N s0 v1 v3 v4 = some y) : Met l yX11_told (.code yX11_told cX11_told 5 (some .int) :: zt) rm_Mo_told (va_Pc [.ref o0, .long v1, .int v3, .int v4] (zPre (dC, dI) cy (wd_Mo_told cy o0 a0 (zI s0) (zL s0) (zA s0 0)) sz)) (zQi y.1 (dC, dI) cy (wd_Mo_told cy o0 a0 (zI y.2) (zL y.2) (zA y.2 0)) (va_A (wd_Mo_told cy o0 a0 (zI s0) (zL s0) (zA s0 0)) sz)) 0 0 (va_A (wd_Mo_told cy o0 a0 (zI s0) (zL s0) (zA s0 0)) sz) :=
  zentW (Qw := fun A => (zQi y.1 (dC, dI) cy (wd_Mo_told cy o0 a0 (zI y.2) (zL y.2) (zA y.2 0)) A)) (by decide +kernel) (Nat.le_of_ble_eq_true rfl) (fun p e s m below meth c A C0 hA hP hD hS ls hl => k_Mo_told_b0 C0 s0 v1 v3 v4 hA hP hD hS hf ls hl)
def wd_Mo_find (cy : Nat → ClassId) (o0 : Nat) (a0 : Nat → Nat) (g0 : Nat → Int32) (h0 : Nat → Int64) (x0_10 : Nat → Int64) : va_W := [(o0, .inr (11, fs_Mo a0 g0 h0)), (a0 10, .inl (cy 1, 48, .inr (.inl x0_10)))]
def rm_Mo_find : Room := { frames := 1, cells := 0, slots := 0, locals := 40 }
set_option maxHeartbeats 4000000 in
set_option maxRecDepth 100000 in
theorem k_Mo_find_b34 {p : Program} {l : Launch} {e : Env} {s : State} {m : MethodId} {args : Array Value} {below : List Frame} {meth : Method} {c : Code} {dC : Nat → ClassId} {dI : Nat → Nat → Nat} {cy : Nat → ClassId} {o0 : Nat} {a0 : Nat → Nat} {N : Nat} {kh5 : Int32 → Int32 → Option (Int32)} {y : Int32} (C0 : zCx p s m args meth c cX11_find 5 (some .int) RX11 (dC, dI) cy) (s0 : zSt) (v1 : Int32) (v2 : Int32) (v4 : Int32) (t0 : Int32) (hk5 : ∀ (v3 : Int32) (v4 : Int32) (_ : kh5 v3 v4 = some y) (ls : Array Slot) (_ : lv_has ls 5 [(0, .ref o0), (1, .int v1), (2, .int v2), (3, .int v3), (4, .int v4)]), W p l e rm_Mo_find s m args below meth c s.heap [] 0 0 (MQ below (zSi y) args s 0 0 (fun _ => False)) (F0 m 5 ls [])) (hP : va_P (dC, dI) vwCl (wd_Mo_find cy o0 a0 (zI s0) (zL s0) (zB s0 10)) s.heap) (hf : Mo_find_b34 N kh5 s0 v1 v2 v4 t0 = some y) (ls : Array Slot) (hl : lv_has ls 5 [(0, .ref o0), (1, .int v1), (2, .int v2), (4, .int v4)]) : W p l e rm_Mo_find s m args below meth c s.heap [] 0 0 (MQ below (zSi y) args s 0 0 (fun _ => False)) (F0 m 34 ls [.int t0]) := by
  obtain ⟨hx, hb, hr, hml, hown, hT, hk, hK⟩ := id C0
  refine lv_istore_n (lv' := [(3, .int t0), (0, .ref o0), (1, .int v1), (2, .int v2), (4, .int v4)]) hx hb dX11_find_34 rfl hl (by decide) rfl (fun ls hl => ?_)
  refine lv_iinc (v := v4 + 1) (lv' := [(4, .int (v4 + 1)), (3, .int t0), (0, .ref o0), (1, .int v1), (2, .int v2)]) hx hb dX11_find_35 hl (k := 4) rfl rfl (by decide) rfl (fun ls hl => ?_)
  refine lv_goto (tgt := 5) hx hb dX11_find_38 (by decide) ?_
  exact hk5 t0 (v4 + 1) hf _ (lv_sub hl [2, 3, 4, 1, 0] rfl)
set_option maxHeartbeats 4000000 in
set_option maxRecDepth 100000 in
theorem k_Mo_find_b5 {p : Program} {l : Launch} {e : Env} {s : State} {m : MethodId} {args : Array Value} {below : List Frame} {meth : Method} {c : Code} {dC : Nat → ClassId} {dI : Nat → Nat → Nat} {cy : Nat → ClassId} {o0 : Nat} {a0 : Nat → Nat} {N : Nat} {kh5 : Int32 → Int32 → Option (Int32)} {y : Int32} (C0 : zCx p s m args meth c cX11_find 5 (some .int) RX11 (dC, dI) cy) (s0 : zSt) (v1 : Int32) (v2 : Int32) (v3 : Int32) (v4 : Int32) (hk5 : ∀ (v3 : Int32) (v4 : Int32) (_ : kh5 v3 v4 = some y) (ls : Array Slot) (_ : lv_has ls 5 [(0, .ref o0), (1, .int v1), (2, .int v2), (3, .int v3), (4, .int v4)]), W p l e rm_Mo_find s m args below meth c s.heap [] 0 0 (MQ below (zSi y) args s 0 0 (fun _ => False)) (F0 m 5 ls [])) (hP : va_P (dC, dI) vwCl (wd_Mo_find cy o0 a0 (zI s0) (zL s0) (zB s0 10)) s.heap) (hf : Mo_find_b5 N kh5 s0 v1 v2 v3 v4 = some y) (ls : Array Slot) (hl : lv_has ls 5 [(0, .ref o0), (1, .int v1), (2, .int v2), (3, .int v3), (4, .int v4)]) : W p l e rm_Mo_find s m args below meth c s.heap [] 0 0 (MQ below (zSi y) args s 0 0 (fun _ => False)) (F0 m 5 ls []) := by
  obtain ⟨hx, hb, hr, hml, hown, hT, hk, hK⟩ := id C0
  refine lv_iload hx hb dX11_find_5 (lv_at hl 4 rfl) ?_
  refine lv_iload_n hx hb dX11_find_7 rfl (lv_at hl 2 rfl) ?_
  refine lv_icmp_ge (tgt := 41) hx hb dX11_find_8 (by decide) (fun hb_1 => ?_) (fun hb_1 => ?_)
  · have hf := zif_t hb_1 hf
    refine lv_iload_n hx hb dX11_find_41 rfl (lv_at hl 3 rfl) ?_
    cases hf
    exact zeri hx hb hr hk dX11_find_42
  · have hf := zif_f hb_1 hf
    refine lv_aload_n hx hb dX11_find_11 rfl (lv_at hl 0 rfl) ?_
    refine zget (v := .ref (a0 10)) hx hb hown hT hK hP inX11 rfl smX11 0 rfl 10 (by decide) tb_1012 rfl dX11_find_12 ?_
    refine lv_iload_n hx hb dX11_find_15 rfl (lv_at hl 1 rfl) ?_
    refine lv_iload hx hb dX11_find_16 (lv_at hl 4 rfl) ?_
    refine lv_iadd hx hb dX11_find_18 ?_
    obtain ⟨hi2, hf⟩ := zck_some hf
    refine va_lald hx hb hK.1 hP 1 1 rfl rfl hi2 dX11_find_19 ?_
    refine lv_aload_n hx hb dX11_find_20 rfl (lv_at hl 0 rfl) ?_
    refine zget (v := .long (zL s0 9)) hx hb hown hT hK hP inX11 rfl smX11 0 rfl 9 (by decide) tb_1011 rfl dX11_find_21 ?_
    refine W.lcmp hx hb dX11_find_24 ?_
    refine lv_if_ne (tgt := 33) hx hb dX11_find_25 (by decide) (fun hb_3 => ?_) (fun hb_3 => ?_)
    · have hf := zif_f hb_3 hf
      refine lv_iload_n hx hb dX11_find_33 rfl (lv_at hl 3 rfl) ?_
      exact k_Mo_find_b34 C0 s0 v1 v2 v4 v3 hk5 hP hf _ (lv_sub hl [0, 1, 2, 4] rfl)
    · have hf := zif_t hb_3 hf
      refine lv_iload hx hb dX11_find_28 (lv_at hl 4 rfl) ?_
      refine lv_goto (tgt := 34) hx hb dX11_find_30 (by decide) ?_
      exact k_Mo_find_b34 C0 s0 v1 v2 v4 v4 hk5 hP hf _ (lv_sub hl [0, 1, 2, 4] rfl)
set_option maxHeartbeats 4000000 in
set_option maxRecDepth 100000 in
theorem k_Mo_find_h5 {p : Program} {l : Launch} {e : Env} {s : State} {m : MethodId} {args : Array Value} {below : List Frame} {meth : Method} {c : Code} {dC : Nat → ClassId} {dI : Nat → Nat → Nat} {cy : Nat → ClassId} {o0 : Nat} {a0 : Nat → Nat} {N : Nat} {y : Int32} (C0 : zCx p s m args meth c cX11_find 5 (some .int) RX11 (dC, dI) cy) (s0 : zSt) (v1 : Int32) (v2 : Int32) (hP : va_P (dC, dI) vwCl (wd_Mo_find cy o0 a0 (zI s0) (zL s0) (zB s0 10)) s.heap) : ∀ (n : Nat) (v3 : Int32) (v4 : Int32) (hf : Mo_find_h5 N s0 v1 v2 n v3 v4 = some y) (ls : Array Slot) (hl : lv_has ls 5 [(0, .ref o0), (1, .int v1), (2, .int v2), (3, .int v3), (4, .int v4)]), W p l e rm_Mo_find s m args below meth c s.heap [] 0 0 (MQ below (zSi y) args s 0 0 (fun _ => False)) (F0 m 5 ls []) := by
  intro n
  induction n with
  | zero => intro v3 v4 hf; cases hf
  | succ n ih =>
    intro v3 v4 hf ls hl
    have hf : Mo_find_b5 N (Mo_find_h5 N s0 v1 v2 n) s0 v1 v2 v3 v4 = some y := hf
    exact k_Mo_find_b5 C0 s0 v1 v2 v3 v4 (fun v3 v4 hf ls hl => ih v3 v4 hf ls hl) hP hf ls hl
set_option maxHeartbeats 4000000 in
set_option maxRecDepth 100000 in
theorem k_Mo_find_b0 {p : Program} {l : Launch} {e : Env} {s : State} {m : MethodId} {args : Array Value} {below : List Frame} {meth : Method} {c : Code} {dC : Nat → ClassId} {dI : Nat → Nat → Nat} {cy : Nat → ClassId} {o0 : Nat} {a0 : Nat → Nat} {N : Nat} {y : Int32} (C0 : zCx p s m args meth c cX11_find 5 (some .int) RX11 (dC, dI) cy) (s0 : zSt) (v1 : Int32) (v2 : Int32) (hP : va_P (dC, dI) vwCl (wd_Mo_find cy o0 a0 (zI s0) (zL s0) (zB s0 10)) s.heap) (hf : Mo_find_b0 N s0 v1 v2 = some y) (ls : Array Slot) (hl : lv_has ls 5 [(0, .ref o0), (1, .int v1), (2, .int v2)]) : W p l e rm_Mo_find s m args below meth c s.heap [] 0 0 (MQ below (zSi y) args s 0 0 (fun _ => False)) (F0 m 0 ls []) := by
  obtain ⟨hx, hb, hr, hml, hown, hT, hk, hK⟩ := id C0
  refine lv_iconst (v := (-1)) hx hb dX11_find_0 (by decide) ?_
  refine lv_istore_n (lv' := [(3, .int (-1)), (0, .ref o0), (1, .int v1), (2, .int v2)]) hx hb dX11_find_1 rfl hl (by decide) rfl (fun ls hl => ?_)
  refine lv_iconst (v := 0) hx hb dX11_find_2 (by decide) ?_
  refine lv_istore (lv' := [(4, .int 0), (3, .int (-1)), (0, .ref o0), (1, .int v1), (2, .int v2)]) hx hb dX11_find_3 hl (by decide) rfl (fun ls hl => ?_)
  exact k_Mo_find_h5 C0 s0 v1 v2  hP N (-1) 0 hf _ (lv_sub hl [2, 3, 4, 1, 0] rfl)
set_option maxHeartbeats 4000000 in
set_option maxRecDepth 100000 in
theorem c_Mo_find {l : Launch} {dC : Nat → ClassId} {dI : Nat → Nat → Nat} {cy : Nat → ClassId} {N : Nat} (o0 : Nat) (a0 : Nat → Nat) (s0 : zSt) (v1 : Int32) (v2 : Int32) {y : Int32} (hf : Mo_find N s0 v1 v2 = some y) : Met l yX11_find (.code yX11_find cX11_find 5 (some .int) :: zt) rm_Mo_find (va_Pc [.ref o0, .int v1, .int v2] (zRd (dC, dI) cy (wd_Mo_find cy o0 a0 (zI s0) (zL s0) (zB s0 10)))) (zSi y) 0 0 (fun _ => False) :=
  zentR (by decide +kernel) (Nat.le_of_ble_eq_true rfl) (fun p e s m below meth c C0 hP ls hl => k_Mo_find_b0 C0 s0 v1 v2 hP hf ls hl)
def wd_Mo_newName (cy : Nat → ClassId) (o0 : Nat) (a0 : Nat → Nat) (g0 : Nat → Int32) (h0 : Nat → Int64) (x0_0 : Nat → Int32) (x0_10 : Nat → Int64) : va_W := [(o0, .inr (11, fs_Mo a0 g0 h0)), (a0 0, .inl (cy 0, 1500, .inl x0_0)), (a0 10, .inl (cy 1, 48, .inr (.inl x0_10)))]
def rm_Mo_newName : Room := { frames := 3, cells := 0, slots := 0, locals := 83 }
theorem rm_ok_Mo_newName_Mo_find : rm_Mo_find.cells = 0 ∧ rm_Mo_find.slots = 0 ∧ rm_Mo_find.frames + 1 ≤ rm_Mo_newName.frames ∧ 8 + (5 + 11) + rm_Mo_find.locals ≤ rm_Mo_newName.locals := by decide
theorem rm_ok_Mo_newName_Mo_isName : rm_Mo_isName.cells = 0 ∧ rm_Mo_isName.slots = 0 ∧ rm_Mo_isName.frames + 1 ≤ rm_Mo_newName.frames ∧ 8 + (1 + 11) + rm_Mo_isName.locals ≤ rm_Mo_newName.locals := by decide
theorem rm_ok_Mo_newName_Mo_token : rm_Mo_token.cells = 0 ∧ rm_Mo_token.slots = 0 ∧ rm_Mo_token.frames + 1 ≤ rm_Mo_newName.frames ∧ 8 + (3 + 11) + rm_Mo_token.locals ≤ rm_Mo_newName.locals := by decide
theorem rm_ok_Mo_newName_Mo_wrong : rm_Mo_wrong.cells = 0 ∧ rm_Mo_wrong.slots = 0 ∧ rm_Mo_wrong.frames + 1 ≤ rm_Mo_newName.frames ∧ 8 + (2 + 11) + rm_Mo_wrong.locals ≤ rm_Mo_newName.locals := by decide
set_option maxHeartbeats 4000000 in
set_option maxRecDepth 100000 in
theorem k_Mo_newName_b33 {p : Program} {l : Launch} {e : Env} {s : State} {m : MethodId} {args : Array Value} {below : List Frame} {meth : Method} {c : Code} {dC : Nat → ClassId} {dI : Nat → Nat → Nat} {cy : Nat → ClassId} {A : Nat → Prop} {o0 : Nat} {a0 : Nat → Nat} {N : Nat} {y : zSt} (C0 : zCx p s m args meth c cX11_newName 3 none RX11 (dC, dI) cy) (s0 : zSt) (v1 : Int32) (v2 : Int32) (hA : ∀ q, s.heap.size ≤ q → A q) {H : Heap} {locs : List Loc} (hP : va_P (dC, dI) vwCl (wd_Mo_newName cy o0 a0 (zI s0) (zL s0) (zA s0 0) (zB s0 10)) H) (hD : va_D A (wd_Mo_newName cy o0 a0 (zI s0) (zL s0) (zA s0 0) (zB s0 10))) (hS : va_S A s.heap H locs) (hf : Mo_newName_b33 N s0 v1 v2 = some y) (ls : Array Slot) (hl : lv_has ls 3 [(0, .ref o0), (1, .int v1), (2, .int v2)]) : W p l e rm_Mo_newName s m args below meth c H locs 0 0 (MQ below (zQv (dC, dI) cy (wd_Mo_newName cy o0 a0 (zI y) (zL y) (zA y 0) (zB y 10)) A) args s 0 0 A) (F0 m 33 ls []) := by
  obtain ⟨hx, hb, hr, hml, hown, hT, hk, hK⟩ := id C0
  refine lv_aload_n hx hb dX11_newName_33 rfl (lv_at hl 0 rfl) ?_
  refine zget (v := .int (zI s0 2)) hx hb hown hT hK hP inX11 rfl smX11 0 rfl 2 (by decide) tb_1004 rfl dX11_newName_34 ?_
  refine lv_if_le (tgt := 41) hx hb dX11_newName_37 (by decide) (fun hb_1 => ?_) (fun hb_1 => ?_)
  · have hf := zif_t hb_1 hf
    refine lv_aload_n hx hb dX11_newName_41 rfl (lv_at hl 0 rfl) ?_
    refine zget (v := .ref (a0 10)) hx hb hown hT hK hP inX11 rfl smX11 0 rfl 10 (by decide) tb_1012 rfl dX11_newName_42 ?_
    refine lv_iload_n hx hb dX11_newName_45 rfl (lv_at hl 1 rfl) ?_
    refine lv_iload_n hx hb dX11_newName_46 rfl (lv_at hl 2 rfl) ?_
    refine lv_iadd hx hb dX11_newName_47 ?_
    refine lv_aload_n hx hb dX11_newName_48 rfl (lv_at hl 0 rfl) ?_
    refine zget (v := .long (zL s0 9)) hx hb hown hT hK hP inX11 rfl smX11 0 rfl 9 (by decide) tb_1011 rfl dX11_newName_49 ?_
    obtain ⟨hi2, hf⟩ := zck_some hf
    refine zlst (ws' := (wd_Mo_newName cy o0 a0 (zI s0) (zL s0) (zA s0 0) (vp_updL (zB s0 10) (Int32.toNatClampNeg (v1 + v2)) (zL s0 9)))) hx hb hK hP hD hS 2 1 rfl rfl hi2 rfl dX11_newName_52 (fun H locs hP hD hS => ?_)
    refine lv_aload_n hx hb dX11_newName_53 rfl (lv_at hl 0 rfl) ?_
    obtain ⟨z3, hc4, hf⟩ := zbd_some hf
    refine zwv (wr := [(a0 10, .inl (cy 1, 48, .inr (.inl (vp_updL (zB s0 10) (Int32.toNatClampNeg (v1 + v2)) (zL s0 9)))))]) (ws' := (wd_Mo_newName cy o0 a0 (zI z3) (zL z3) (zA z3 0) (vp_updL (zB s0 10) (Int32.toNatClampNeg (v1 + v2)) (zL s0 9)))) (zV (As := []) hx hb hml hown hT hl.1 (c_Mo_token o0 a0 (zsB s0 10 (vp_updL (zB s0 10) (Int32.toNatClampNeg (v1 + v2)) (zL s0 9))) hc4) zY_Mo_token tb_1216 (zpRw hK hP hD [0, 1] (by decide) rfl 0 11 rfl rfl rfl rfl) rm_ok_Mo_newName_Mo_token rfl rfl (Nat.le_of_ble_eq_true rfl) dX11_newName_54 ⟨Nat.zero_le _, Nat.zero_le _⟩) hP hD hS hA [0, 1] [2] [1, 2, 0] rfl rfl (by decide) (by decide) (by decide) rfl rfl (fun H locs hP hD hS => ?_)
    cases hf
    exact zewv hx hb hr hk hK hP hD hS dX11_newName_57
  · have hf := zif_f hb_1 hf
    cases hf
    exact zewv hx hb hr hk hK hP hD hS dX11_newName_40
set_option maxHeartbeats 4000000 in
set_option maxRecDepth 100000 in
theorem k_Mo_newName_b0 {p : Program} {l : Launch} {e : Env} {s : State} {m : MethodId} {args : Array Value} {below : List Frame} {meth : Method} {c : Code} {dC : Nat → ClassId} {dI : Nat → Nat → Nat} {cy : Nat → ClassId} {A : Nat → Prop} {o0 : Nat} {a0 : Nat → Nat} {N : Nat} {y : zSt} (C0 : zCx p s m args meth c cX11_newName 3 none RX11 (dC, dI) cy) (s0 : zSt) (v1 : Int32) (v2 : Int32) (hA : ∀ q, s.heap.size ≤ q → A q) {H : Heap} {locs : List Loc} (hP : va_P (dC, dI) vwCl (wd_Mo_newName cy o0 a0 (zI s0) (zL s0) (zA s0 0) (zB s0 10)) H) (hD : va_D A (wd_Mo_newName cy o0 a0 (zI s0) (zL s0) (zA s0 0) (zB s0 10))) (hS : va_S A s.heap H locs) (hf : Mo_newName_b0 N s0 v1 v2 = some y) (ls : Array Slot) (hl : lv_has ls 3 [(0, .ref o0), (1, .int v1), (2, .int v2)]) : W p l e rm_Mo_newName s m args below meth c H locs 0 0 (MQ below (zQv (dC, dI) cy (wd_Mo_newName cy o0 a0 (zI y) (zL y) (zA y 0) (zB y 10)) A) args s 0 0 A) (F0 m 0 ls []) := by
  obtain ⟨hx, hb, hr, hml, hown, hT, hk, hK⟩ := id C0
  refine lv_aload_n hx hb dX11_newName_0 rfl (lv_at hl 0 rfl) ?_
  obtain ⟨z1, hc2, hf⟩ := zbd_some hf
  refine zwv (wr := [(a0 10, .inl (cy 1, 48, .inr (.inl (zB s0 10))))]) (ws' := (wd_Mo_newName cy o0 a0 (zI z1) (zL z1) (zA z1 0) (zB s0 10))) (zV (As := []) hx hb hml hown hT hl.1 (c_Mo_token o0 a0 s0 hc2) zY_Mo_token tb_1216 (zpRw hK hP hD [0, 1] (by decide) rfl 0 11 rfl rfl rfl rfl) rm_ok_Mo_newName_Mo_token rfl rfl (Nat.le_of_ble_eq_true rfl) dX11_newName_1 ⟨Nat.zero_le _, Nat.zero_le _⟩) hP hD hS hA [0, 1] [2] [1, 2, 0] rfl rfl (by decide) (by decide) (by decide) rfl rfl (fun H locs hP hD hS => ?_)
  refine lv_aload_n hx hb dX11_newName_4 rfl (lv_at hl 0 rfl) ?_
  obtain ⟨z3, hc4, hf⟩ := zbd_some hf
  refine zri (zV (As := []) hx hb hml hown hT hl.1 (c_Mo_isName o0 a0 (zmg [10] z1 s0) hc4) zY_Mo_isName tb_1247 (zpR hK hP [0] rfl 0 11 rfl rfl rfl) rm_ok_Mo_newName_Mo_isName rfl rfl (Nat.le_of_ble_eq_true rfl) dX11_newName_5 ⟨Nat.zero_le _, Nat.zero_le _⟩) ?_
  refine lv_if_ne (tgt := 19) hx hb dX11_newName_8 (by decide) (fun hb_5 => ?_) (fun hb_5 => ?_)
  · have hf := zif_f hb_5 hf
    refine lv_aload_n hx hb dX11_newName_19 rfl (lv_at hl 0 rfl) ?_
    refine lv_iload_n hx hb dX11_newName_20 rfl (lv_at hl 1 rfl) ?_
    refine lv_iload_n hx hb dX11_newName_21 rfl (lv_at hl 2 rfl) ?_
    obtain ⟨z6, hc7, hf⟩ := zbd_some hf
    refine zri (zV (As := [.int v1, .int v2]) hx hb hml hown hT hl.1 (c_Mo_find o0 a0 (zmg [10] z1 s0) v1 v2 hc7) zY_Mo_find tb_1263 (zpR hK hP [0, 2] rfl 0 11 rfl rfl rfl) rm_ok_Mo_newName_Mo_find rfl rfl (Nat.le_of_ble_eq_true rfl) dX11_newName_22 ⟨Nat.zero_le _, Nat.zero_le _⟩) ?_
    refine lv_if_lt (tgt := 33) hx hb dX11_newName_25 (by decide) (fun hb_8 => ?_) (fun hb_8 => ?_)
    · have hf := zif_t hb_8 hf
      exact k_Mo_newName_b33 C0 (zmg [10] z1 s0) v1 v2  hA hP hD hS hf _ (lv_sub hl [0, 1, 2] rfl)
    · have hf := zif_f hb_8 hf
      refine lv_aload_n hx hb dX11_newName_28 rfl (lv_at hl 0 rfl) ?_
      refine lv_iconst (v := 3) hx hb dX11_newName_29 (by decide) ?_
      obtain ⟨z9, hc10, hf⟩ := zbd_some hf
      refine zwv (wr := [(a0 0, .inl (cy 0, 1500, .inl (zA z1 0))), (a0 10, .inl (cy 1, 48, .inr (.inl (zB s0 10))))]) (ws' := (wd_Mo_newName cy o0 a0 (zI z9) (zL z9) (zA z1 0) (zB s0 10))) (zV (As := [.int 3]) hx hb hml hown hT hl.1 (c_Mo_wrong o0 a0 (zmg [10] z1 s0) 3 hc10) zY_Mo_wrong tb_1259 (zpRw hK hP hD [0] (by decide) rfl 0 11 rfl rfl rfl rfl) rm_ok_Mo_newName_Mo_wrong rfl rfl (Nat.le_of_ble_eq_true rfl) dX11_newName_30 ⟨Nat.zero_le _, Nat.zero_le _⟩) hP hD hS hA [0] [1, 2] [2, 0, 1] rfl rfl (by decide) (by decide) (by decide) rfl rfl (fun H locs hP hD hS => ?_)
      exact k_Mo_newName_b33 C0 (zmg [0,10] z9 (zmg [10] z1 s0)) v1 v2  hA hP hD hS hf _ (lv_sub hl [0, 1, 2] rfl)
  · have hf := zif_t hb_5 hf
    refine lv_aload_n hx hb dX11_newName_11 rfl (lv_at hl 0 rfl) ?_
    refine lv_iconst (v := 2) hx hb dX11_newName_12 (by decide) ?_
    obtain ⟨z11, hc12, hf⟩ := zbd_some hf
    refine zwv (wr := [(a0 0, .inl (cy 0, 1500, .inl (zA z1 0))), (a0 10, .inl (cy 1, 48, .inr (.inl (zB s0 10))))]) (ws' := (wd_Mo_newName cy o0 a0 (zI z11) (zL z11) (zA z1 0) (zB s0 10))) (zV (As := [.int 2]) hx hb hml hown hT hl.1 (c_Mo_wrong o0 a0 (zmg [10] z1 s0) 2 hc12) zY_Mo_wrong tb_1259 (zpRw hK hP hD [0] (by decide) rfl 0 11 rfl rfl rfl rfl) rm_ok_Mo_newName_Mo_wrong rfl rfl (Nat.le_of_ble_eq_true rfl) dX11_newName_13 ⟨Nat.zero_le _, Nat.zero_le _⟩) hP hD hS hA [0] [1, 2] [2, 0, 1] rfl rfl (by decide) (by decide) (by decide) rfl rfl (fun H locs hP hD hS => ?_)
    refine lv_goto (tgt := 33) hx hb dX11_newName_16 (by decide) ?_
    exact k_Mo_newName_b33 C0 (zmg [0,10] z11 (zmg [10] z1 s0)) v1 v2  hA hP hD hS hf _ (lv_sub hl [0, 1, 2] rfl)
set_option maxHeartbeats 4000000 in
set_option maxRecDepth 100000 in
theorem c_Mo_newName {l : Launch} {dC : Nat → ClassId} {dI : Nat → Nat → Nat} {cy : Nat → ClassId} {sz : Nat} {N : Nat} (o0 : Nat) (a0 : Nat → Nat) (s0 : zSt) (v1 : Int32) (v2 : Int32) {y : zSt} (hf : Mo_newName N s0 v1 v2 = some y) : Met l yX11_newName (.code yX11_newName cX11_newName 3 none :: zt) rm_Mo_newName (va_Pc [.ref o0, .int v1, .int v2] (zPre (dC, dI) cy (wd_Mo_newName cy o0 a0 (zI s0) (zL s0) (zA s0 0) (zB s0 10)) sz)) (zQv (dC, dI) cy (wd_Mo_newName cy o0 a0 (zI y) (zL y) (zA y 0) (zB y 10)) (va_A (wd_Mo_newName cy o0 a0 (zI s0) (zL s0) (zA s0 0) (zB s0 10)) sz)) 0 0 (va_A (wd_Mo_newName cy o0 a0 (zI s0) (zL s0) (zA s0 0) (zB s0 10)) sz) :=
  zentW (Qw := fun A => (zQv (dC, dI) cy (wd_Mo_newName cy o0 a0 (zI y) (zL y) (zA y 0) (zB y 10)) A)) (by decide +kernel) (Nat.le_of_ble_eq_true rfl) (fun p e s m below meth c A C0 hA hP hD hS ls hl => k_Mo_newName_b0 C0 s0 v1 v2 hA hP hD hS hf ls hl)
def wd_Mo_readHerd (cy : Nat → ClassId) (o0 : Nat) (a0 : Nat → Nat) (g0 : Nat → Int32) (h0 : Nat → Int64) (x0_0 : Nat → Int32) (x0_10 : Nat → Int64) : va_W := [(o0, .inr (11, fs_Mo a0 g0 h0)), (a0 0, .inl (cy 0, 1500, .inl x0_0)), (a0 10, .inl (cy 1, 48, .inr (.inl x0_10)))]
def rm_Mo_readHerd : Room := { frames := 4, cells := 0, slots := 0, locals := 105 }
theorem rm_ok_Mo_readHerd_Mo_newName : rm_Mo_newName.cells = 0 ∧ rm_Mo_newName.slots = 0 ∧ rm_Mo_newName.frames + 1 ≤ rm_Mo_readHerd.frames ∧ 8 + (3 + 11) + rm_Mo_newName.locals ≤ rm_Mo_readHerd.locals := by decide
set_option maxHeartbeats 4000000 in
set_option maxRecDepth 100000 in
theorem k_Mo_readHerd_b0 {p : Program} {l : Launch} {e : Env} {s : State} {m : MethodId} {args : Array Value} {below : List Frame} {meth : Method} {c : Code} {dC : Nat → ClassId} {dI : Nat → Nat → Nat} {cy : Nat → ClassId} {A : Nat → Prop} {o0 : Nat} {a0 : Nat → Nat} {N : Nat} {y : zSt} (C0 : zCx p s m args meth c cX11_readHerd 1 none RX11 (dC, dI) cy) (s0 : zSt) (hA : ∀ q, s.heap.size ≤ q → A q) {H : Heap} {locs : List Loc} (hP : va_P (dC, dI) vwCl (wd_Mo_readHerd cy o0 a0 (zI s0) (zL s0) (zA s0 0) (zB s0 10)) H) (hD : va_D A (wd_Mo_readHerd cy o0 a0 (zI s0) (zL s0) (zA s0 0) (zB s0 10))) (hS : va_S A s.heap H locs) (hf : Mo_readHerd_b0 N s0 = some y) (ls : Array Slot) (hl : lv_has ls 1 [(0, .ref o0)]) : W p l e rm_Mo_readHerd s m args below meth c H locs 0 0 (MQ below (zQv (dC, dI) cy (wd_Mo_readHerd cy o0 a0 (zI y) (zL y) (zA y 0) (zB y 10)) A) args s 0 0 A) (F0 m 0 ls []) := by
  obtain ⟨hx, hb, hr, hml, hown, hT, hk, hK⟩ := id C0
  refine lv_aload_n hx hb dX11_readHerd_0 rfl (lv_at hl 0 rfl) ?_
  refine lv_iconst (v := 0) hx hb dX11_readHerd_1 (by decide) ?_
  refine lv_aload_n hx hb dX11_readHerd_2 rfl (lv_at hl 0 rfl) ?_
  refine zget (v := .int (zI s0 22)) hx hb hown hT hK hP inX11 rfl smX11 0 rfl 22 (by decide) tb_1024 rfl dX11_readHerd_3 ?_
  obtain ⟨z1, hc2, hf⟩ := zbd_some hf
  refine zwv (wr := []) (ws' := (wd_Mo_readHerd cy o0 a0 (zI z1) (zL z1) (zA z1 0) (zB z1 10))) (zV (As := [.int 0, .int (zI s0 22)]) hx hb hml hown hT hl.1 (c_Mo_newName o0 a0 s0 0 (zI s0 22) hc2) zY_Mo_newName tb_1243 (zpRw hK hP hD [0, 1, 2] (by decide) rfl 0 11 rfl rfl rfl rfl) rm_ok_Mo_readHerd_Mo_newName rfl rfl (Nat.le_of_ble_eq_true rfl) dX11_readHerd_6 ⟨Nat.zero_le _, Nat.zero_le _⟩) hP hD hS hA [0, 1, 2] [] [0, 1, 2] rfl rfl (by decide) (by decide) (by decide) rfl rfl (fun H locs hP hD hS => ?_)
  refine lv_aload_n hx hb dX11_readHerd_9 rfl (lv_at hl 0 rfl) ?_
  refine zget (v := .int (zI z1 2)) hx hb hown hT hK hP inX11 rfl smX11 0 rfl 2 (by decide) tb_1004 rfl dX11_readHerd_10 ?_
  refine lv_if_ne (tgt := 26) hx hb dX11_readHerd_13 (by decide) (fun hb_3 => ?_) (fun hb_3 => ?_)
  · have hf := zif_f hb_3 hf
    cases hf
    exact zewv hx hb hr hk hK hP hD hS dX11_readHerd_26
  · have hf := zif_t hb_3 hf
    refine lv_aload_n hx hb dX11_readHerd_16 rfl (lv_at hl 0 rfl) ?_
    refine lv_dup hx hb dX11_readHerd_17 rfl ?_
    refine zget (v := .int (zI z1 22)) hx hb hown hT hK hP inX11 rfl smX11 0 rfl 22 (by decide) tb_1024 rfl dX11_readHerd_18 ?_
    refine lv_iconst (v := 1) hx hb dX11_readHerd_21 (by decide) ?_
    refine lv_iadd hx hb dX11_readHerd_22 ?_
    refine zput (fs' := fs_Mo a0 (upd (zI z1) 22 ((zI z1 22) + 1)) (zL z1)) (ws' := (wd_Mo_readHerd cy o0 a0 (upd (zI z1) 22 ((zI z1 22) + 1)) (zL z1) (zA z1 0) (zB z1 10))) hx hb hown hT hK hP hD hS inX11 rfl smX11 tyX11_ok nmX11 0 rfl 22 (by decide) tb_1024 rfl rfl rfl (Nat.le_of_ble_eq_true rfl) rfl rfl dX11_readHerd_23 (fun H locs hP hD hS => ?_)
    cases hf
    exact zewv hx hb hr hk hK hP hD hS dX11_readHerd_26
set_option maxHeartbeats 4000000 in
set_option maxRecDepth 100000 in
theorem c_Mo_readHerd {l : Launch} {dC : Nat → ClassId} {dI : Nat → Nat → Nat} {cy : Nat → ClassId} {sz : Nat} {N : Nat} (o0 : Nat) (a0 : Nat → Nat) (s0 : zSt) {y : zSt} (hf : Mo_readHerd N s0 = some y) : Met l yX11_readHerd (.code yX11_readHerd cX11_readHerd 1 none :: zt) rm_Mo_readHerd (va_Pc [.ref o0] (zPre (dC, dI) cy (wd_Mo_readHerd cy o0 a0 (zI s0) (zL s0) (zA s0 0) (zB s0 10)) sz)) (zQv (dC, dI) cy (wd_Mo_readHerd cy o0 a0 (zI y) (zL y) (zA y 0) (zB y 10)) (va_A (wd_Mo_readHerd cy o0 a0 (zI s0) (zL s0) (zA s0 0) (zB s0 10)) sz)) 0 0 (va_A (wd_Mo_readHerd cy o0 a0 (zI s0) (zL s0) (zA s0 0) (zB s0 10)) sz) :=
  zentW (Qw := fun A => (zQv (dC, dI) cy (wd_Mo_readHerd cy o0 a0 (zI y) (zL y) (zA y 0) (zB y 10)) A)) (by decide +kernel) (Nat.le_of_ble_eq_true rfl) (fun p e s m below meth c A C0 hA hP hD hS ls hl => k_Mo_readHerd_b0 C0 s0 hA hP hD hS hf ls hl)
def wd_Mo_readBell (cy : Nat → ClassId) (o0 : Nat) (a0 : Nat → Nat) (g0 : Nat → Int32) (h0 : Nat → Int64) (x0_0 : Nat → Int32) (x0_11 : Nat → Int32) (x0_12 : Nat → Int32) (x0_13 : Nat → Int32) (x0_15 : Nat → Int32) : va_W := [(o0, .inr (11, fs_Mo a0 g0 h0)), (a0 0, .inl (cy 0, 1500, .inl x0_0)), (a0 11, .inl (cy 0, 11, .inl x0_11)), (a0 12, .inl (cy 0, 11, .inl x0_12)), (a0 13, .inl (cy 0, 11, .inl x0_13)), (a0 15, .inl (cy 0, 11, .inl x0_15))]
def rm_Mo_readBell : Room := { frames := 5, cells := 0, slots := 0, locals := 130 }
theorem rm_ok_Mo_readBell_Mo_told : rm_Mo_told.cells = 0 ∧ rm_Mo_told.slots = 0 ∧ rm_Mo_told.frames + 1 ≤ rm_Mo_readBell.frames ∧ 8 + (5 + 11) + rm_Mo_told.locals ≤ rm_Mo_readBell.locals := by decide
set_option maxHeartbeats 4000000 in
set_option maxRecDepth 100000 in
theorem k_Mo_readBell_b0 {p : Program} {l : Launch} {e : Env} {s : State} {m : MethodId} {args : Array Value} {below : List Frame} {meth : Method} {c : Code} {dC : Nat → ClassId} {dI : Nat → Nat → Nat} {cy : Nat → ClassId} {A : Nat → Prop} {o0 : Nat} {a0 : Nat → Nat} {N : Nat} {y : zSt} (C0 : zCx p s m args meth c cX11_readBell 2 none RX11 (dC, dI) cy) (s0 : zSt) (v1 : Int32) (hA : ∀ q, s.heap.size ≤ q → A q) {H : Heap} {locs : List Loc} (hP : va_P (dC, dI) vwCl (wd_Mo_readBell cy o0 a0 (zI s0) (zL s0) (zA s0 0) (zA s0 11) (zA s0 12) (zA s0 13) (zA s0 15)) H) (hD : va_D A (wd_Mo_readBell cy o0 a0 (zI s0) (zL s0) (zA s0 0) (zA s0 11) (zA s0 12) (zA s0 13) (zA s0 15))) (hS : va_S A s.heap H locs) (hf : Mo_readBell_b0 N s0 v1 = some y) (ls : Array Slot) (hl : lv_has ls 2 [(0, .ref o0), (1, .int v1)]) : W p l e rm_Mo_readBell s m args below meth c H locs 0 0 (MQ below (zQv (dC, dI) cy (wd_Mo_readBell cy o0 a0 (zI y) (zL y) (zA y 0) (zA y 11) (zA y 12) (zA y 13) (zA y 15)) A) args s 0 0 A) (F0 m 0 ls []) := by
  obtain ⟨hx, hb, hr, hml, hown, hT, hk, hK⟩ := id C0
  refine lv_aload_n hx hb dX11_readBell_0 rfl (lv_at hl 0 rfl) ?_
  refine zget (v := .ref (a0 13)) hx hb hown hT hK hP inX11 rfl smX11 0 rfl 13 (by decide) tb_1015 rfl dX11_readBell_1 ?_
  refine lv_aload_n hx hb dX11_readBell_4 rfl (lv_at hl 0 rfl) ?_
  refine zget (v := .int (zI s0 23)) hx hb hown hT hK hP inX11 rfl smX11 0 rfl 23 (by decide) tb_1025 rfl dX11_readBell_5 ?_
  refine lv_iload_n hx hb dX11_readBell_8 rfl (lv_at hl 1 rfl) ?_
  obtain ⟨hi1, hf⟩ := zck_some hf
  refine zast (ws' := (wd_Mo_readBell cy o0 a0 (zI s0) (zL s0) (zA s0 0) (zA s0 11) (zA s0 12) (upd (zA s0 13) (Int32.toNatClampNeg (zI s0 23)) v1) (zA s0 15))) hx hb hK hP hD hS 4 0 rfl rfl hi1 rfl dX11_readBell_9 (fun H locs hP hD hS => ?_)
  refine lv_aload_n hx hb dX11_readBell_10 rfl (lv_at hl 0 rfl) ?_
  refine zget (v := .ref (a0 15)) hx hb hown hT hK hP inX11 rfl smX11 0 rfl 15 (by decide) tb_1017 rfl dX11_readBell_11 ?_
  refine lv_aload_n hx hb dX11_readBell_14 rfl (lv_at hl 0 rfl) ?_
  refine zget (v := .int (zI s0 23)) hx hb hown hT hK hP inX11 rfl smX11 0 rfl 23 (by decide) tb_1025 rfl dX11_readBell_15 ?_
  refine lv_iconst (v := 0) hx hb dX11_readBell_18 (by decide) ?_
  obtain ⟨hi2, hf⟩ := zck_some hf
  refine zast (ws' := (wd_Mo_readBell cy o0 a0 (zI s0) (zL s0) (zA s0 0) (zA s0 11) (zA s0 12) (upd (zA s0 13) (Int32.toNatClampNeg (zI s0 23)) v1) (upd (zA s0 15) (Int32.toNatClampNeg (zI s0 23)) 0))) hx hb hK hP hD hS 5 0 rfl rfl hi2 rfl dX11_readBell_19 (fun H locs hP hD hS => ?_)
  refine lv_aload_n hx hb dX11_readBell_20 rfl (lv_at hl 0 rfl) ?_
  refine zget (v := .ref (a0 11)) hx hb hown hT hK hP inX11 rfl smX11 0 rfl 11 (by decide) tb_1013 rfl dX11_readBell_21 ?_
  refine lv_aload_n hx hb dX11_readBell_24 rfl (lv_at hl 0 rfl) ?_
  refine zget (v := .int (zI s0 23)) hx hb hown hT hK hP inX11 rfl smX11 0 rfl 23 (by decide) tb_1025 rfl dX11_readBell_25 ?_
  refine lv_aload_n hx hb dX11_readBell_28 rfl (lv_at hl 0 rfl) ?_
  refine lv_ldc2 (v := 1650814060) hx hb hown (hT _ tb_1253) dX11_readBell_29 ?_
  refine lv_iconst (v := 0) hx hb dX11_readBell_32 (by decide) ?_
  refine lv_bipush (v := 11) hx hb dX11_readBell_33 (by decide) ?_
  obtain ⟨z3, hc4, hf⟩ := zbd_some hf
  refine zwi (wr := [(a0 11, .inl (cy 0, 11, .inl (zA s0 11))), (a0 12, .inl (cy 0, 11, .inl (zA s0 12))), (a0 13, .inl (cy 0, 11, .inl (upd (zA s0 13) (Int32.toNatClampNeg (zI s0 23)) v1))), (a0 15, .inl (cy 0, 11, .inl (upd (zA s0 15) (Int32.toNatClampNeg (zI s0 23)) 0)))]) (ws' := (wd_Mo_readBell cy o0 a0 (zI z3.2) (zL z3.2) (zA z3.2 0) (zA s0 11) (zA s0 12) (upd (zA s0 13) (Int32.toNatClampNeg (zI s0 23)) v1) (upd (zA s0 15) (Int32.toNatClampNeg (zI s0 23)) 0))) (zV (As := [.long 1650814060, .int 0, .int 11]) hx hb hml hown hT hl.1 (c_Mo_told o0 a0 (zsA (zsA s0 13 (upd (zA s0 13) (Int32.toNatClampNeg (zI s0 23)) v1)) 15 (upd (zA s0 15) (Int32.toNatClampNeg (zI s0 23)) 0)) 1650814060 0 11 hc4) zY_Mo_told tb_1279 (zpRw hK hP hD [0, 1] (by decide) rfl 0 11 rfl rfl rfl rfl) rm_ok_Mo_readBell_Mo_told rfl rfl (Nat.le_of_ble_eq_true rfl) dX11_readBell_35 ⟨Nat.zero_le _, Nat.zero_le _⟩) hP hD hS hA [0, 1] [2, 3, 4, 5] [4, 5, 0, 1, 2, 3] rfl rfl (by decide) (by decide) (by decide) rfl rfl (fun H locs hP hD hS => ?_)
  obtain ⟨hi5, hf⟩ := zck_some hf
  refine zast (ws' := (wd_Mo_readBell cy o0 a0 (zI z3.2) (zL z3.2) (zA z3.2 0) (upd (zA s0 11) (Int32.toNatClampNeg (zI s0 23)) z3.1) (zA s0 12) (upd (zA s0 13) (Int32.toNatClampNeg (zI s0 23)) v1) (upd (zA s0 15) (Int32.toNatClampNeg (zI s0 23)) 0))) hx hb hK hP hD hS 2 0 rfl rfl hi5 rfl dX11_readBell_38 (fun H locs hP hD hS => ?_)
  refine lv_aload_n hx hb dX11_readBell_39 rfl (lv_at hl 0 rfl) ?_
  refine zget (v := .ref (a0 12)) hx hb hown hT hK hP inX11 rfl smX11 0 rfl 12 (by decide) tb_1014 rfl dX11_readBell_40 ?_
  refine lv_aload_n hx hb dX11_readBell_43 rfl (lv_at hl 0 rfl) ?_
  refine zget (v := .int (zI z3.2 23)) hx hb hown hT hK hP inX11 rfl smX11 0 rfl 23 (by decide) tb_1025 rfl dX11_readBell_44 ?_
  refine lv_aload_n hx hb dX11_readBell_47 rfl (lv_at hl 0 rfl) ?_
  refine lv_ldc2 (v := 1819243876) hx hb hown (hT _ tb_1254) dX11_readBell_48 ?_
  refine lv_iconst (v := 1) hx hb dX11_readBell_51 (by decide) ?_
  refine lv_bipush (v := 99) hx hb dX11_readBell_52 (by decide) ?_
  obtain ⟨z6, hc7, hf⟩ := zbd_some hf
  refine zwi (wr := [(a0 11, .inl (cy 0, 11, .inl (upd (zA s0 11) (Int32.toNatClampNeg (zI s0 23)) z3.1))), (a0 12, .inl (cy 0, 11, .inl (zA s0 12))), (a0 13, .inl (cy 0, 11, .inl (upd (zA s0 13) (Int32.toNatClampNeg (zI s0 23)) v1))), (a0 15, .inl (cy 0, 11, .inl (upd (zA s0 15) (Int32.toNatClampNeg (zI s0 23)) 0)))]) (ws' := (wd_Mo_readBell cy o0 a0 (zI z6.2) (zL z6.2) (zA z6.2 0) (upd (zA s0 11) (Int32.toNatClampNeg (zI s0 23)) z3.1) (zA s0 12) (upd (zA s0 13) (Int32.toNatClampNeg (zI s0 23)) v1) (upd (zA s0 15) (Int32.toNatClampNeg (zI s0 23)) 0))) (zV (As := [.long 1819243876, .int 1, .int 99]) hx hb hml hown hT hl.1 (c_Mo_told o0 a0 (zsA (zmg [11,12,13,15] z3.2 (zsA (zsA s0 13 (upd (zA s0 13) (Int32.toNatClampNeg (zI s0 23)) v1)) 15 (upd (zA s0 15) (Int32.toNatClampNeg (zI s0 23)) 0))) 11 (upd (zA s0 11) (Int32.toNatClampNeg (zI s0 23)) z3.1)) 1819243876 1 99 hc7) zY_Mo_told tb_1279 (zpRw hK hP hD [0, 1] (by decide) rfl 0 11 rfl rfl rfl rfl) rm_ok_Mo_readBell_Mo_told rfl rfl (Nat.le_of_ble_eq_true rfl) dX11_readBell_54 ⟨Nat.zero_le _, Nat.zero_le _⟩) hP hD hS hA [0, 1] [2, 3, 4, 5] [4, 5, 0, 1, 2, 3] rfl rfl (by decide) (by decide) (by decide) rfl rfl (fun H locs hP hD hS => ?_)
  obtain ⟨hi8, hf⟩ := zck_some hf
  refine zast (ws' := (wd_Mo_readBell cy o0 a0 (zI z6.2) (zL z6.2) (zA z6.2 0) (upd (zA s0 11) (Int32.toNatClampNeg (zI s0 23)) z3.1) (upd (zA s0 12) (Int32.toNatClampNeg (zI z3.2 23)) z6.1) (upd (zA s0 13) (Int32.toNatClampNeg (zI s0 23)) v1) (upd (zA s0 15) (Int32.toNatClampNeg (zI s0 23)) 0))) hx hb hK hP hD hS 3 0 rfl rfl hi8 rfl dX11_readBell_57 (fun H locs hP hD hS => ?_)
  refine lv_aload_n hx hb dX11_readBell_58 rfl (lv_at hl 0 rfl) ?_
  refine zget (v := .int (zI z6.2 2)) hx hb hown hT hK hP inX11 rfl smX11 0 rfl 2 (by decide) tb_1004 rfl dX11_readBell_59 ?_
  refine lv_if_ne (tgt := 75) hx hb dX11_readBell_62 (by decide) (fun hb_9 => ?_) (fun hb_9 => ?_)
  · have hf := zif_f hb_9 hf
    cases hf
    exact zewv hx hb hr hk hK hP hD hS dX11_readBell_75
  · have hf := zif_t hb_9 hf
    refine lv_aload_n hx hb dX11_readBell_65 rfl (lv_at hl 0 rfl) ?_
    refine lv_dup hx hb dX11_readBell_66 rfl ?_
    refine zget (v := .int (zI z6.2 23)) hx hb hown hT hK hP inX11 rfl smX11 0 rfl 23 (by decide) tb_1025 rfl dX11_readBell_67 ?_
    refine lv_iconst (v := 1) hx hb dX11_readBell_70 (by decide) ?_
    refine lv_iadd hx hb dX11_readBell_71 ?_
    refine zput (fs' := fs_Mo a0 (upd (zI z6.2) 23 ((zI z6.2 23) + 1)) (zL z6.2)) (ws' := (wd_Mo_readBell cy o0 a0 (upd (zI z6.2) 23 ((zI z6.2 23) + 1)) (zL z6.2) (zA z6.2 0) (upd (zA s0 11) (Int32.toNatClampNeg (zI s0 23)) z3.1) (upd (zA s0 12) (Int32.toNatClampNeg (zI z3.2 23)) z6.1) (upd (zA s0 13) (Int32.toNatClampNeg (zI s0 23)) v1) (upd (zA s0 15) (Int32.toNatClampNeg (zI s0 23)) 0))) hx hb hown hT hK hP hD hS inX11 rfl smX11 tyX11_ok nmX11 0 rfl 23 (by decide) tb_1025 rfl rfl rfl (Nat.le_of_ble_eq_true rfl) rfl rfl dX11_readBell_72 (fun H locs hP hD hS => ?_)
    cases hf
    exact zewv hx hb hr hk hK hP hD hS dX11_readBell_75
set_option maxHeartbeats 4000000 in
set_option maxRecDepth 100000 in
theorem c_Mo_readBell {l : Launch} {dC : Nat → ClassId} {dI : Nat → Nat → Nat} {cy : Nat → ClassId} {sz : Nat} {N : Nat} (o0 : Nat) (a0 : Nat → Nat) (s0 : zSt) (v1 : Int32) {y : zSt} (hf : Mo_readBell N s0 v1 = some y) : Met l yX11_readBell (.code yX11_readBell cX11_readBell 2 none :: zt) rm_Mo_readBell (va_Pc [.ref o0, .int v1] (zPre (dC, dI) cy (wd_Mo_readBell cy o0 a0 (zI s0) (zL s0) (zA s0 0) (zA s0 11) (zA s0 12) (zA s0 13) (zA s0 15)) sz)) (zQv (dC, dI) cy (wd_Mo_readBell cy o0 a0 (zI y) (zL y) (zA y 0) (zA y 11) (zA y 12) (zA y 13) (zA y 15)) (va_A (wd_Mo_readBell cy o0 a0 (zI s0) (zL s0) (zA s0 0) (zA s0 11) (zA s0 12) (zA s0 13) (zA s0 15)) sz)) 0 0 (va_A (wd_Mo_readBell cy o0 a0 (zI s0) (zL s0) (zA s0 0) (zA s0 11) (zA s0 12) (zA s0 13) (zA s0 15)) sz) :=
  zentW (Qw := fun A => (zQv (dC, dI) cy (wd_Mo_readBell cy o0 a0 (zI y) (zL y) (zA y 0) (zA y 11) (zA y 12) (zA y 13) (zA y 15)) A)) (by decide +kernel) (Nat.le_of_ble_eq_true rfl) (fun p e s m below meth c A C0 hA hP hD hS ls hl => k_Mo_readBell_b0 C0 s0 v1 hA hP hD hS hf ls hl)
def wd_Mo_readBeast (cy : Nat → ClassId) (o0 : Nat) (a0 : Nat → Nat) (g0 : Nat → Int32) (h0 : Nat → Int64) (x0_0 : Nat → Int32) (x0_10 : Nat → Int64) (x0_11 : Nat → Int32) (x0_12 : Nat → Int32) (x0_13 : Nat → Int32) (x0_15 : Nat → Int32) : va_W := [(o0, .inr (11, fs_Mo a0 g0 h0)), (a0 0, .inl (cy 0, 1500, .inl x0_0)), (a0 10, .inl (cy 1, 48, .inr (.inl x0_10))), (a0 11, .inl (cy 0, 11, .inl x0_11)), (a0 12, .inl (cy 0, 11, .inl x0_12)), (a0 13, .inl (cy 0, 11, .inl x0_13)), (a0 15, .inl (cy 0, 11, .inl x0_15))]
def rm_Mo_readBeast : Room := { frames := 6, cells := 0, slots := 0, locals := 151 }
theorem rm_ok_Mo_readBeast_Mo_find : rm_Mo_find.cells = 0 ∧ rm_Mo_find.slots = 0 ∧ rm_Mo_find.frames + 1 ≤ rm_Mo_readBeast.frames ∧ 8 + (5 + 11) + rm_Mo_find.locals ≤ rm_Mo_readBeast.locals := by decide
theorem rm_ok_Mo_readBeast_Mo_isName : rm_Mo_isName.cells = 0 ∧ rm_Mo_isName.slots = 0 ∧ rm_Mo_isName.frames + 1 ≤ rm_Mo_readBeast.frames ∧ 8 + (1 + 11) + rm_Mo_isName.locals ≤ rm_Mo_readBeast.locals := by decide
theorem rm_ok_Mo_readBeast_Mo_newName : rm_Mo_newName.cells = 0 ∧ rm_Mo_newName.slots = 0 ∧ rm_Mo_newName.frames + 1 ≤ rm_Mo_readBeast.frames ∧ 8 + (3 + 11) + rm_Mo_newName.locals ≤ rm_Mo_readBeast.locals := by decide
theorem rm_ok_Mo_readBeast_Mo_readBell : rm_Mo_readBell.cells = 0 ∧ rm_Mo_readBell.slots = 0 ∧ rm_Mo_readBell.frames + 1 ≤ rm_Mo_readBeast.frames ∧ 8 + (2 + 11) + rm_Mo_readBell.locals ≤ rm_Mo_readBeast.locals := by decide
theorem rm_ok_Mo_readBeast_Mo_token : rm_Mo_token.cells = 0 ∧ rm_Mo_token.slots = 0 ∧ rm_Mo_token.frames + 1 ≤ rm_Mo_readBeast.frames ∧ 8 + (3 + 11) + rm_Mo_token.locals ≤ rm_Mo_readBeast.locals := by decide
theorem rm_ok_Mo_readBeast_Mo_want : rm_Mo_want.cells = 0 ∧ rm_Mo_want.slots = 0 ∧ rm_Mo_want.frames + 1 ≤ rm_Mo_readBeast.frames ∧ 8 + (3 + 11) + rm_Mo_want.locals ≤ rm_Mo_readBeast.locals := by decide
theorem rm_ok_Mo_readBeast_Mo_wrong : rm_Mo_wrong.cells = 0 ∧ rm_Mo_wrong.slots = 0 ∧ rm_Mo_wrong.frames + 1 ≤ rm_Mo_readBeast.frames ∧ 8 + (2 + 11) + rm_Mo_wrong.locals ≤ rm_Mo_readBeast.locals := by decide
set_option maxHeartbeats 4000000 in
set_option maxRecDepth 100000 in
theorem k_Mo_readBeast_b70 {p : Program} {l : Launch} {e : Env} {s : State} {m : MethodId} {args : Array Value} {below : List Frame} {meth : Method} {c : Code} {dC : Nat → ClassId} {dI : Nat → Nat → Nat} {cy : Nat → ClassId} {A : Nat → Prop} {o0 : Nat} {a0 : Nat → Nat} {N : Nat} {y : zSt} (C0 : zCx p s m args meth c cX11_readBeast 2 none RX11 (dC, dI) cy) (s0 : zSt) (v1 : Int32) (hA : ∀ q, s.heap.size ≤ q → A q) {H : Heap} {locs : List Loc} (hP : va_P (dC, dI) vwCl (wd_Mo_readBeast cy o0 a0 (zI s0) (zL s0) (zA s0 0) (zB s0 10) (zA s0 11) (zA s0 12) (zA s0 13) (zA s0 15)) H) (hD : va_D A (wd_Mo_readBeast cy o0 a0 (zI s0) (zL s0) (zA s0 0) (zB s0 10) (zA s0 11) (zA s0 12) (zA s0 13) (zA s0 15))) (hS : va_S A s.heap H locs) (hf : Mo_readBeast_b70 N s0 v1 = some y) (ls : Array Slot) (hl : lv_has ls 2 [(0, .ref o0), (1, .int v1)]) : W p l e rm_Mo_readBeast s m args below meth c H locs 0 0 (MQ below (zQv (dC, dI) cy (wd_Mo_readBeast cy o0 a0 (zI y) (zL y) (zA y 0) (zB y 10) (zA y 11) (zA y 12) (zA y 13) (zA y 15)) A) args s 0 0 A) (F0 m 70 ls []) := by
  obtain ⟨hx, hb, hr, hml, hown, hT, hk, hK⟩ := id C0
  refine lv_aload_n hx hb dX11_readBeast_70 rfl (lv_at hl 0 rfl) ?_
  refine lv_iload_n hx hb dX11_readBeast_71 rfl (lv_at hl 1 rfl) ?_
  obtain ⟨z1, hc2, hf⟩ := zbd_some hf
  refine zwv (wr := [(a0 10, .inl (cy 1, 48, .inr (.inl (zB s0 10))))]) (ws' := (wd_Mo_readBeast cy o0 a0 (zI z1) (zL z1) (zA z1 0) (zB s0 10) (zA z1 11) (zA z1 12) (zA z1 13) (zA z1 15))) (zV (As := [.int v1]) hx hb hml hown hT hl.1 (c_Mo_readBell o0 a0 s0 v1 hc2) zY_Mo_readBell tb_1275 (zpRw hK hP hD [0, 1, 3, 4, 5, 6] (by decide) rfl 0 11 rfl rfl rfl rfl) rm_ok_Mo_readBeast_Mo_readBell rfl rfl (Nat.le_of_ble_eq_true rfl) dX11_readBeast_72 ⟨Nat.zero_le _, Nat.zero_le _⟩) hP hD hS hA [0, 1, 3, 4, 5, 6] [2] [1, 2, 0, 3, 4, 5, 6] rfl rfl (by decide) (by decide) (by decide) rfl rfl (fun H locs hP hD hS => ?_)
  refine lv_aload_n hx hb dX11_readBeast_75 rfl (lv_at hl 0 rfl) ?_
  refine zget (v := .int (zI z1 2)) hx hb hown hT hK hP inX11 rfl smX11 0 rfl 2 (by decide) tb_1004 rfl dX11_readBeast_76 ?_
  refine lv_if_ne (tgt := 92) hx hb dX11_readBeast_79 (by decide) (fun hb_3 => ?_) (fun hb_3 => ?_)
  · have hf := zif_f hb_3 hf
    cases hf
    exact zewv hx hb hr hk hK hP hD hS dX11_readBeast_92
  · have hf := zif_t hb_3 hf
    refine lv_aload_n hx hb dX11_readBeast_82 rfl (lv_at hl 0 rfl) ?_
    refine lv_dup hx hb dX11_readBeast_83 rfl ?_
    refine zget (v := .int (zI z1 24)) hx hb hown hT hK hP inX11 rfl smX11 0 rfl 24 (by decide) tb_1026 rfl dX11_readBeast_84 ?_
    refine lv_iconst (v := 1) hx hb dX11_readBeast_87 (by decide) ?_
    refine lv_iadd hx hb dX11_readBeast_88 ?_
    refine zput (fs' := fs_Mo a0 (upd (zI z1) 24 ((zI z1 24) + 1)) (zL z1)) (ws' := (wd_Mo_readBeast cy o0 a0 (upd (zI z1) 24 ((zI z1 24) + 1)) (zL z1) (zA z1 0) (zB s0 10) (zA z1 11) (zA z1 12) (zA z1 13) (zA z1 15))) hx hb hown hT hK hP hD hS inX11 rfl smX11 tyX11_ok nmX11 0 rfl 24 (by decide) tb_1026 rfl rfl rfl (Nat.le_of_ble_eq_true rfl) rfl rfl dX11_readBeast_89 (fun H locs hP hD hS => ?_)
    cases hf
    exact zewv hx hb hr hk hK hP hD hS dX11_readBeast_92
set_option maxHeartbeats 4000000 in
set_option maxRecDepth 100000 in
theorem k_Mo_readBeast_b59 {p : Program} {l : Launch} {e : Env} {s : State} {m : MethodId} {args : Array Value} {below : List Frame} {meth : Method} {c : Code} {dC : Nat → ClassId} {dI : Nat → Nat → Nat} {cy : Nat → ClassId} {A : Nat → Prop} {o0 : Nat} {a0 : Nat → Nat} {N : Nat} {y : zSt} (C0 : zCx p s m args meth c cX11_readBeast 2 none RX11 (dC, dI) cy) (s0 : zSt) (v1 : Int32) (hA : ∀ q, s.heap.size ≤ q → A q) {H : Heap} {locs : List Loc} (hP : va_P (dC, dI) vwCl (wd_Mo_readBeast cy o0 a0 (zI s0) (zL s0) (zA s0 0) (zB s0 10) (zA s0 11) (zA s0 12) (zA s0 13) (zA s0 15)) H) (hD : va_D A (wd_Mo_readBeast cy o0 a0 (zI s0) (zL s0) (zA s0 0) (zB s0 10) (zA s0 11) (zA s0 12) (zA s0 13) (zA s0 15))) (hS : va_S A s.heap H locs) (hf : Mo_readBeast_b59 N s0 v1 = some y) (ls : Array Slot) (hl : lv_has ls 2 [(0, .ref o0), (1, .int v1)]) : W p l e rm_Mo_readBeast s m args below meth c H locs 0 0 (MQ below (zQv (dC, dI) cy (wd_Mo_readBeast cy o0 a0 (zI y) (zL y) (zA y 0) (zB y 10) (zA y 11) (zA y 12) (zA y 13) (zA y 15)) A) args s 0 0 A) (F0 m 59 ls []) := by
  obtain ⟨hx, hb, hr, hml, hown, hT, hk, hK⟩ := id C0
  refine lv_aload_n hx hb dX11_readBeast_59 rfl (lv_at hl 0 rfl) ?_
  refine zget (v := .int (zI s0 2)) hx hb hown hT hK hP inX11 rfl smX11 0 rfl 2 (by decide) tb_1004 rfl dX11_readBeast_60 ?_
  refine lv_if_ne (tgt := 70) hx hb dX11_readBeast_63 (by decide) (fun hb_1 => ?_) (fun hb_1 => ?_)
  · have hf := zif_f hb_1 hf
    exact k_Mo_readBeast_b70 C0 s0 v1  hA hP hD hS hf _ (lv_sub hl [0, 1] rfl)
  · have hf := zif_t hb_1 hf
    refine lv_aload_n hx hb dX11_readBeast_66 rfl (lv_at hl 0 rfl) ?_
    obtain ⟨z2, hc3, hf⟩ := zbd_some hf
    refine zwv (wr := [(a0 10, .inl (cy 1, 48, .inr (.inl (zB s0 10)))), (a0 11, .inl (cy 0, 11, .inl (zA s0 11))), (a0 12, .inl (cy 0, 11, .inl (zA s0 12))), (a0 13, .inl (cy 0, 11, .inl (zA s0 13))), (a0 15, .inl (cy 0, 11, .inl (zA s0 15)))]) (ws' := (wd_Mo_readBeast cy o0 a0 (zI z2) (zL z2) (zA z2 0) (zB s0 10) (zA s0 11) (zA s0 12) (zA s0 13) (zA s0 15))) (zV (As := []) hx hb hml hown hT hl.1 (c_Mo_token o0 a0 s0 hc3) zY_Mo_token tb_1216 (zpRw hK hP hD [0, 1] (by decide) rfl 0 11 rfl rfl rfl rfl) rm_ok_Mo_readBeast_Mo_token rfl rfl (Nat.le_of_ble_eq_true rfl) dX11_readBeast_67 ⟨Nat.zero_le _, Nat.zero_le _⟩) hP hD hS hA [0, 1] [2, 3, 4, 5, 6] [5, 6, 0, 1, 2, 3, 4] rfl rfl (by decide) (by decide) (by decide) rfl rfl (fun H locs hP hD hS => ?_)
    exact k_Mo_readBeast_b70 C0 (zmg [10,11,12,13,15] z2 s0) v1  hA hP hD hS hf _ (lv_sub hl [0, 1] rfl)
set_option maxHeartbeats 4000000 in
set_option maxRecDepth 100000 in
theorem k_Mo_readBeast_b0 {p : Program} {l : Launch} {e : Env} {s : State} {m : MethodId} {args : Array Value} {below : List Frame} {meth : Method} {c : Code} {dC : Nat → ClassId} {dI : Nat → Nat → Nat} {cy : Nat → ClassId} {A : Nat → Prop} {o0 : Nat} {a0 : Nat → Nat} {N : Nat} {y : zSt} (C0 : zCx p s m args meth c cX11_readBeast 2 none RX11 (dC, dI) cy) (s0 : zSt) (hA : ∀ q, s.heap.size ≤ q → A q) {H : Heap} {locs : List Loc} (hP : va_P (dC, dI) vwCl (wd_Mo_readBeast cy o0 a0 (zI s0) (zL s0) (zA s0 0) (zB s0 10) (zA s0 11) (zA s0 12) (zA s0 13) (zA s0 15)) H) (hD : va_D A (wd_Mo_readBeast cy o0 a0 (zI s0) (zL s0) (zA s0 0) (zB s0 10) (zA s0 11) (zA s0 12) (zA s0 13) (zA s0 15))) (hS : va_S A s.heap H locs) (hf : Mo_readBeast_b0 N s0 = some y) (ls : Array Slot) (hl : lv_has ls 2 [(0, .ref o0)]) : W p l e rm_Mo_readBeast s m args below meth c H locs 0 0 (MQ below (zQv (dC, dI) cy (wd_Mo_readBeast cy o0 a0 (zI y) (zL y) (zA y 0) (zB y 10) (zA y 11) (zA y 12) (zA y 13) (zA y 15)) A) args s 0 0 A) (F0 m 0 ls []) := by
  obtain ⟨hx, hb, hr, hml, hown, hT, hk, hK⟩ := id C0
  refine lv_aload_n hx hb dX11_readBeast_0 rfl (lv_at hl 0 rfl) ?_
  refine lv_bipush (v := 16) hx hb dX11_readBeast_1 (by decide) ?_
  refine lv_aload_n hx hb dX11_readBeast_3 rfl (lv_at hl 0 rfl) ?_
  refine zget (v := .int (zI s0 23)) hx hb hown hT hK hP inX11 rfl smX11 0 rfl 23 (by decide) tb_1025 rfl dX11_readBeast_4 ?_
  obtain ⟨z1, hc2, hf⟩ := zbd_some hf
  refine zwv (wr := [(a0 11, .inl (cy 0, 11, .inl (zA s0 11))), (a0 12, .inl (cy 0, 11, .inl (zA s0 12))), (a0 13, .inl (cy 0, 11, .inl (zA s0 13))), (a0 15, .inl (cy 0, 11, .inl (zA s0 15)))]) (ws' := (wd_Mo_readBeast cy o0 a0 (zI z1) (zL z1) (zA z1 0) (zB z1 10) (zA s0 11) (zA s0 12) (zA s0 13) (zA s0 15))) (zV (As := [.int 16, .int (zI s0 23)]) hx hb hml hown hT hl.1 (c_Mo_newName o0 a0 s0 16 (zI s0 23) hc2) zY_Mo_newName tb_1243 (zpRw hK hP hD [0, 1, 2] (by decide) rfl 0 11 rfl rfl rfl rfl) rm_ok_Mo_readBeast_Mo_newName rfl rfl (Nat.le_of_ble_eq_true rfl) dX11_readBeast_7 ⟨Nat.zero_le _, Nat.zero_le _⟩) hP hD hS hA [0, 1, 2] [3, 4, 5, 6] [4, 5, 6, 0, 1, 2, 3] rfl rfl (by decide) (by decide) (by decide) rfl rfl (fun H locs hP hD hS => ?_)
  refine lv_aload_n hx hb dX11_readBeast_10 rfl (lv_at hl 0 rfl) ?_
  refine lv_ldc2 (v := 28518) hx hb hown (hT _ tb_1252) dX11_readBeast_11 ?_
  obtain ⟨z3, hc4, hf⟩ := zbd_some hf
  refine zwv (wr := [(a0 10, .inl (cy 1, 48, .inr (.inl (zB z1 10)))), (a0 11, .inl (cy 0, 11, .inl (zA s0 11))), (a0 12, .inl (cy 0, 11, .inl (zA s0 12))), (a0 13, .inl (cy 0, 11, .inl (zA s0 13))), (a0 15, .inl (cy 0, 11, .inl (zA s0 15)))]) (ws' := (wd_Mo_readBeast cy o0 a0 (zI z3) (zL z3) (zA z3 0) (zB z1 10) (zA s0 11) (zA s0 12) (zA s0 13) (zA s0 15))) (zV (As := [.long 28518]) hx hb hml hown hT hl.1 (c_Mo_want o0 a0 (zmg [11,12,13,15] z1 s0) 28518 hc4) zY_Mo_want tb_1271 (zpRw hK hP hD [0, 1] (by decide) rfl 0 11 rfl rfl rfl rfl) rm_ok_Mo_readBeast_Mo_want rfl rfl (Nat.le_of_ble_eq_true rfl) dX11_readBeast_14 ⟨Nat.zero_le _, Nat.zero_le _⟩) hP hD hS hA [0, 1] [2, 3, 4, 5, 6] [5, 6, 0, 1, 2, 3, 4] rfl rfl (by decide) (by decide) (by decide) rfl rfl (fun H locs hP hD hS => ?_)
  refine lv_aload_n hx hb dX11_readBeast_17 rfl (lv_at hl 0 rfl) ?_
  refine zget (v := .int (zI z3 2)) hx hb hown hT hK hP inX11 rfl smX11 0 rfl 2 (by decide) tb_1004 rfl dX11_readBeast_18 ?_
  refine lv_if_le (tgt := 25) hx hb dX11_readBeast_21 (by decide) (fun hb_5 => ?_) (fun hb_5 => ?_)
  · have hf := zif_t hb_5 hf
    refine lv_aload_n hx hb dX11_readBeast_25 rfl (lv_at hl 0 rfl) ?_
    refine lv_iconst (v := 0) hx hb dX11_readBeast_26 (by decide) ?_
    refine lv_aload_n hx hb dX11_readBeast_27 rfl (lv_at hl 0 rfl) ?_
    refine zget (v := .int (zI z3 22)) hx hb hown hT hK hP inX11 rfl smX11 0 rfl 22 (by decide) tb_1024 rfl dX11_readBeast_28 ?_
    obtain ⟨z6, hc7, hf⟩ := zbd_some hf
    refine zri (zV (As := [.int 0, .int (zI z3 22)]) hx hb hml hown hT hl.1 (c_Mo_find o0 a0 (zmg [10,11,12,13,15] z3 (zmg [11,12,13,15] z1 s0)) 0 (zI z3 22) hc7) zY_Mo_find tb_1263 (zpR hK hP [0, 2] rfl 0 11 rfl rfl rfl) rm_ok_Mo_readBeast_Mo_find rfl rfl (Nat.le_of_ble_eq_true rfl) dX11_readBeast_31 ⟨Nat.zero_le _, Nat.zero_le _⟩) ?_
    refine lv_istore_n (lv' := [(1, .int z6), (0, .ref o0)]) hx hb dX11_readBeast_34 rfl hl (by decide) rfl (fun ls hl => ?_)
    refine lv_aload_n hx hb dX11_readBeast_35 rfl (lv_at hl 1 rfl) ?_
    obtain ⟨z8, hc9, hf⟩ := zbd_some hf
    refine zri (zV (As := []) hx hb hml hown hT hl.1 (c_Mo_isName o0 a0 (zmg [10,11,12,13,15] z3 (zmg [11,12,13,15] z1 s0)) hc9) zY_Mo_isName tb_1247 (zpR hK hP [0] rfl 0 11 rfl rfl rfl) rm_ok_Mo_readBeast_Mo_isName rfl rfl (Nat.le_of_ble_eq_true rfl) dX11_readBeast_36 ⟨Nat.zero_le _, Nat.zero_le _⟩) ?_
    refine lv_if_ne (tgt := 50) hx hb dX11_readBeast_39 (by decide) (fun hb_10 => ?_) (fun hb_10 => ?_)
    · have hf := zif_f hb_10 hf
      refine lv_iload_n hx hb dX11_readBeast_50 rfl (lv_at hl 0 rfl) ?_
      refine lv_if_ge (tgt := 59) hx hb dX11_readBeast_51 (by decide) (fun hb_11 => ?_) (fun hb_11 => ?_)
      · have hf := zif_t hb_11 hf
        exact k_Mo_readBeast_b59 C0 (zmg [10,11,12,13,15] z3 (zmg [11,12,13,15] z1 s0)) z6  hA hP hD hS hf _ (lv_sub hl [1, 0] rfl)
      · have hf := zif_f hb_11 hf
        refine lv_aload_n hx hb dX11_readBeast_54 rfl (lv_at hl 1 rfl) ?_
        refine lv_iconst (v := 5) hx hb dX11_readBeast_55 (by decide) ?_
        obtain ⟨z12, hc13, hf⟩ := zbd_some hf
        refine zwv (wr := [(a0 0, .inl (cy 0, 1500, .inl (zA z3 0))), (a0 10, .inl (cy 1, 48, .inr (.inl (zB z1 10)))), (a0 11, .inl (cy 0, 11, .inl (zA s0 11))), (a0 12, .inl (cy 0, 11, .inl (zA s0 12))), (a0 13, .inl (cy 0, 11, .inl (zA s0 13))), (a0 15, .inl (cy 0, 11, .inl (zA s0 15)))]) (ws' := (wd_Mo_readBeast cy o0 a0 (zI z12) (zL z12) (zA z3 0) (zB z1 10) (zA s0 11) (zA s0 12) (zA s0 13) (zA s0 15))) (zV (As := [.int 5]) hx hb hml hown hT hl.1 (c_Mo_wrong o0 a0 (zmg [10,11,12,13,15] z3 (zmg [11,12,13,15] z1 s0)) 5 hc13) zY_Mo_wrong tb_1259 (zpRw hK hP hD [0] (by decide) rfl 0 11 rfl rfl rfl rfl) rm_ok_Mo_readBeast_Mo_wrong rfl rfl (Nat.le_of_ble_eq_true rfl) dX11_readBeast_56 ⟨Nat.zero_le _, Nat.zero_le _⟩) hP hD hS hA [0] [1, 2, 3, 4, 5, 6] [6, 0, 1, 2, 3, 4, 5] rfl rfl (by decide) (by decide) (by decide) rfl rfl (fun H locs hP hD hS => ?_)
        exact k_Mo_readBeast_b59 C0 (zmg [0,10,11,12,13,15] z12 (zmg [10,11,12,13,15] z3 (zmg [11,12,13,15] z1 s0))) z6  hA hP hD hS hf _ (lv_sub hl [1, 0] rfl)
    · have hf := zif_t hb_10 hf
      refine lv_aload_n hx hb dX11_readBeast_42 rfl (lv_at hl 1 rfl) ?_
      refine lv_iconst (v := 2) hx hb dX11_readBeast_43 (by decide) ?_
      obtain ⟨z14, hc15, hf⟩ := zbd_some hf
      refine zwv (wr := [(a0 0, .inl (cy 0, 1500, .inl (zA z3 0))), (a0 10, .inl (cy 1, 48, .inr (.inl (zB z1 10)))), (a0 11, .inl (cy 0, 11, .inl (zA s0 11))), (a0 12, .inl (cy 0, 11, .inl (zA s0 12))), (a0 13, .inl (cy 0, 11, .inl (zA s0 13))), (a0 15, .inl (cy 0, 11, .inl (zA s0 15)))]) (ws' := (wd_Mo_readBeast cy o0 a0 (zI z14) (zL z14) (zA z3 0) (zB z1 10) (zA s0 11) (zA s0 12) (zA s0 13) (zA s0 15))) (zV (As := [.int 2]) hx hb hml hown hT hl.1 (c_Mo_wrong o0 a0 (zmg [10,11,12,13,15] z3 (zmg [11,12,13,15] z1 s0)) 2 hc15) zY_Mo_wrong tb_1259 (zpRw hK hP hD [0] (by decide) rfl 0 11 rfl rfl rfl rfl) rm_ok_Mo_readBeast_Mo_wrong rfl rfl (Nat.le_of_ble_eq_true rfl) dX11_readBeast_44 ⟨Nat.zero_le _, Nat.zero_le _⟩) hP hD hS hA [0] [1, 2, 3, 4, 5, 6] [6, 0, 1, 2, 3, 4, 5] rfl rfl (by decide) (by decide) (by decide) rfl rfl (fun H locs hP hD hS => ?_)
      refine lv_goto (tgt := 59) hx hb dX11_readBeast_47 (by decide) ?_
      exact k_Mo_readBeast_b59 C0 (zmg [0,10,11,12,13,15] z14 (zmg [10,11,12,13,15] z3 (zmg [11,12,13,15] z1 s0))) z6  hA hP hD hS hf _ (lv_sub hl [1, 0] rfl)
  · have hf := zif_f hb_5 hf
    cases hf
    exact zewv hx hb hr hk hK hP hD hS dX11_readBeast_24
set_option maxHeartbeats 4000000 in
set_option maxRecDepth 100000 in
theorem c_Mo_readBeast {l : Launch} {dC : Nat → ClassId} {dI : Nat → Nat → Nat} {cy : Nat → ClassId} {sz : Nat} {N : Nat} (o0 : Nat) (a0 : Nat → Nat) (s0 : zSt) {y : zSt} (hf : Mo_readBeast N s0 = some y) : Met l yX11_readBeast (.code yX11_readBeast cX11_readBeast 2 none :: zt) rm_Mo_readBeast (va_Pc [.ref o0] (zPre (dC, dI) cy (wd_Mo_readBeast cy o0 a0 (zI s0) (zL s0) (zA s0 0) (zB s0 10) (zA s0 11) (zA s0 12) (zA s0 13) (zA s0 15)) sz)) (zQv (dC, dI) cy (wd_Mo_readBeast cy o0 a0 (zI y) (zL y) (zA y 0) (zB y 10) (zA y 11) (zA y 12) (zA y 13) (zA y 15)) (va_A (wd_Mo_readBeast cy o0 a0 (zI s0) (zL s0) (zA s0 0) (zB s0 10) (zA s0 11) (zA s0 12) (zA s0 13) (zA s0 15)) sz)) 0 0 (va_A (wd_Mo_readBeast cy o0 a0 (zI s0) (zL s0) (zA s0 0) (zB s0 10) (zA s0 11) (zA s0 12) (zA s0 13) (zA s0 15)) sz) :=
  zentW (Qw := fun A => (zQv (dC, dI) cy (wd_Mo_readBeast cy o0 a0 (zI y) (zL y) (zA y 0) (zB y 10) (zA y 11) (zA y 12) (zA y 13) (zA y 15)) A)) (by decide +kernel) (Nat.le_of_ble_eq_true rfl) (fun p e s m below meth c A C0 hA hP hD hS ls hl => k_Mo_readBeast_b0 C0 s0 hA hP hD hS hf ls hl)
def wd_Mo_readStranger (cy : Nat → ClassId) (o0 : Nat) (a0 : Nat → Nat) (g0 : Nat → Int32) (h0 : Nat → Int64) (x0_0 : Nat → Int32) (x0_10 : Nat → Int64) (x0_11 : Nat → Int32) (x0_12 : Nat → Int32) (x0_13 : Nat → Int32) (x0_15 : Nat → Int32) : va_W := [(o0, .inr (11, fs_Mo a0 g0 h0)), (a0 0, .inl (cy 0, 1500, .inl x0_0)), (a0 10, .inl (cy 1, 48, .inr (.inl x0_10))), (a0 11, .inl (cy 0, 11, .inl x0_11)), (a0 12, .inl (cy 0, 11, .inl x0_12)), (a0 13, .inl (cy 0, 11, .inl x0_13)), (a0 15, .inl (cy 0, 11, .inl x0_15))]
def rm_Mo_readStranger : Room := { frames := 6, cells := 0, slots := 0, locals := 151 }
theorem rm_ok_Mo_readStranger_Mo_newName : rm_Mo_newName.cells = 0 ∧ rm_Mo_newName.slots = 0 ∧ rm_Mo_newName.frames + 1 ≤ rm_Mo_readStranger.frames ∧ 8 + (3 + 11) + rm_Mo_newName.locals ≤ rm_Mo_readStranger.locals := by decide
theorem rm_ok_Mo_readStranger_Mo_readBell : rm_Mo_readBell.cells = 0 ∧ rm_Mo_readBell.slots = 0 ∧ rm_Mo_readBell.frames + 1 ≤ rm_Mo_readStranger.frames ∧ 8 + (2 + 11) + rm_Mo_readBell.locals ≤ rm_Mo_readStranger.locals := by decide
set_option maxHeartbeats 4000000 in
set_option maxRecDepth 100000 in
theorem k_Mo_readStranger_b0 {p : Program} {l : Launch} {e : Env} {s : State} {m : MethodId} {args : Array Value} {below : List Frame} {meth : Method} {c : Code} {dC : Nat → ClassId} {dI : Nat → Nat → Nat} {cy : Nat → ClassId} {A : Nat → Prop} {o0 : Nat} {a0 : Nat → Nat} {N : Nat} {y : zSt} (C0 : zCx p s m args meth c cX11_readStranger 1 none RX11 (dC, dI) cy) (s0 : zSt) (hA : ∀ q, s.heap.size ≤ q → A q) {H : Heap} {locs : List Loc} (hP : va_P (dC, dI) vwCl (wd_Mo_readStranger cy o0 a0 (zI s0) (zL s0) (zA s0 0) (zB s0 10) (zA s0 11) (zA s0 12) (zA s0 13) (zA s0 15)) H) (hD : va_D A (wd_Mo_readStranger cy o0 a0 (zI s0) (zL s0) (zA s0 0) (zB s0 10) (zA s0 11) (zA s0 12) (zA s0 13) (zA s0 15))) (hS : va_S A s.heap H locs) (hf : Mo_readStranger_b0 N s0 = some y) (ls : Array Slot) (hl : lv_has ls 1 [(0, .ref o0)]) : W p l e rm_Mo_readStranger s m args below meth c H locs 0 0 (MQ below (zQv (dC, dI) cy (wd_Mo_readStranger cy o0 a0 (zI y) (zL y) (zA y 0) (zB y 10) (zA y 11) (zA y 12) (zA y 13) (zA y 15)) A) args s 0 0 A) (F0 m 0 ls []) := by
  obtain ⟨hx, hb, hr, hml, hown, hT, hk, hK⟩ := id C0
  refine lv_aload_n hx hb dX11_readStranger_0 rfl (lv_at hl 0 rfl) ?_
  refine lv_bipush (v := 16) hx hb dX11_readStranger_1 (by decide) ?_
  refine lv_aload_n hx hb dX11_readStranger_3 rfl (lv_at hl 0 rfl) ?_
  refine zget (v := .int (zI s0 23)) hx hb hown hT hK hP inX11 rfl smX11 0 rfl 23 (by decide) tb_1025 rfl dX11_readStranger_4 ?_
  obtain ⟨z1, hc2, hf⟩ := zbd_some hf
  refine zwv (wr := [(a0 11, .inl (cy 0, 11, .inl (zA s0 11))), (a0 12, .inl (cy 0, 11, .inl (zA s0 12))), (a0 13, .inl (cy 0, 11, .inl (zA s0 13))), (a0 15, .inl (cy 0, 11, .inl (zA s0 15)))]) (ws' := (wd_Mo_readStranger cy o0 a0 (zI z1) (zL z1) (zA z1 0) (zB z1 10) (zA s0 11) (zA s0 12) (zA s0 13) (zA s0 15))) (zV (As := [.int 16, .int (zI s0 23)]) hx hb hml hown hT hl.1 (c_Mo_newName o0 a0 s0 16 (zI s0 23) hc2) zY_Mo_newName tb_1243 (zpRw hK hP hD [0, 1, 2] (by decide) rfl 0 11 rfl rfl rfl rfl) rm_ok_Mo_readStranger_Mo_newName rfl rfl (Nat.le_of_ble_eq_true rfl) dX11_readStranger_7 ⟨Nat.zero_le _, Nat.zero_le _⟩) hP hD hS hA [0, 1, 2] [3, 4, 5, 6] [4, 5, 6, 0, 1, 2, 3] rfl rfl (by decide) (by decide) (by decide) rfl rfl (fun H locs hP hD hS => ?_)
  refine lv_aload_n hx hb dX11_readStranger_10 rfl (lv_at hl 0 rfl) ?_
  refine lv_iconst (v := (-1)) hx hb dX11_readStranger_11 (by decide) ?_
  obtain ⟨z3, hc4, hf⟩ := zbd_some hf
  refine zwv (wr := [(a0 10, .inl (cy 1, 48, .inr (.inl (zB z1 10))))]) (ws' := (wd_Mo_readStranger cy o0 a0 (zI z3) (zL z3) (zA z3 0) (zB z1 10) (zA z3 11) (zA z3 12) (zA z3 13) (zA z3 15))) (zV (As := [.int (-1)]) hx hb hml hown hT hl.1 (c_Mo_readBell o0 a0 (zmg [11,12,13,15] z1 s0) (-1) hc4) zY_Mo_readBell tb_1275 (zpRw hK hP hD [0, 1, 3, 4, 5, 6] (by decide) rfl 0 11 rfl rfl rfl rfl) rm_ok_Mo_readStranger_Mo_readBell rfl rfl (Nat.le_of_ble_eq_true rfl) dX11_readStranger_12 ⟨Nat.zero_le _, Nat.zero_le _⟩) hP hD hS hA [0, 1, 3, 4, 5, 6] [2] [1, 2, 0, 3, 4, 5, 6] rfl rfl (by decide) (by decide) (by decide) rfl rfl (fun H locs hP hD hS => ?_)
  refine lv_aload_n hx hb dX11_readStranger_15 rfl (lv_at hl 0 rfl) ?_
  refine zget (v := .int (zI z3 2)) hx hb hown hT hK hP inX11 rfl smX11 0 rfl 2 (by decide) tb_1004 rfl dX11_readStranger_16 ?_
  refine lv_if_ne (tgt := 32) hx hb dX11_readStranger_19 (by decide) (fun hb_5 => ?_) (fun hb_5 => ?_)
  · have hf := zif_f hb_5 hf
    cases hf
    exact zewv hx hb hr hk hK hP hD hS dX11_readStranger_32
  · have hf := zif_t hb_5 hf
    refine lv_aload_n hx hb dX11_readStranger_22 rfl (lv_at hl 0 rfl) ?_
    refine lv_dup hx hb dX11_readStranger_23 rfl ?_
    refine zget (v := .int (zI z3 25)) hx hb hown hT hK hP inX11 rfl smX11 0 rfl 25 (by decide) tb_1027 rfl dX11_readStranger_24 ?_
    refine lv_iconst (v := 1) hx hb dX11_readStranger_27 (by decide) ?_
    refine lv_iadd hx hb dX11_readStranger_28 ?_
    refine zput (fs' := fs_Mo a0 (upd (zI z3) 25 ((zI z3 25) + 1)) (zL z3)) (ws' := (wd_Mo_readStranger cy o0 a0 (upd (zI z3) 25 ((zI z3 25) + 1)) (zL z3) (zA z3 0) (zB z1 10) (zA z3 11) (zA z3 12) (zA z3 13) (zA z3 15))) hx hb hown hT hK hP hD hS inX11 rfl smX11 tyX11_ok nmX11 0 rfl 25 (by decide) tb_1027 rfl rfl rfl (Nat.le_of_ble_eq_true rfl) rfl rfl dX11_readStranger_29 (fun H locs hP hD hS => ?_)
    cases hf
    exact zewv hx hb hr hk hK hP hD hS dX11_readStranger_32
set_option maxHeartbeats 4000000 in
set_option maxRecDepth 100000 in
theorem c_Mo_readStranger {l : Launch} {dC : Nat → ClassId} {dI : Nat → Nat → Nat} {cy : Nat → ClassId} {sz : Nat} {N : Nat} (o0 : Nat) (a0 : Nat → Nat) (s0 : zSt) {y : zSt} (hf : Mo_readStranger N s0 = some y) : Met l yX11_readStranger (.code yX11_readStranger cX11_readStranger 1 none :: zt) rm_Mo_readStranger (va_Pc [.ref o0] (zPre (dC, dI) cy (wd_Mo_readStranger cy o0 a0 (zI s0) (zL s0) (zA s0 0) (zB s0 10) (zA s0 11) (zA s0 12) (zA s0 13) (zA s0 15)) sz)) (zQv (dC, dI) cy (wd_Mo_readStranger cy o0 a0 (zI y) (zL y) (zA y 0) (zB y 10) (zA y 11) (zA y 12) (zA y 13) (zA y 15)) (va_A (wd_Mo_readStranger cy o0 a0 (zI s0) (zL s0) (zA s0 0) (zB s0 10) (zA s0 11) (zA s0 12) (zA s0 13) (zA s0 15)) sz)) 0 0 (va_A (wd_Mo_readStranger cy o0 a0 (zI s0) (zL s0) (zA s0 0) (zB s0 10) (zA s0 11) (zA s0 12) (zA s0 13) (zA s0 15)) sz) :=
  zentW (Qw := fun A => (zQv (dC, dI) cy (wd_Mo_readStranger cy o0 a0 (zI y) (zL y) (zA y 0) (zB y 10) (zA y 11) (zA y 12) (zA y 13) (zA y 15)) A)) (by decide +kernel) (Nat.le_of_ble_eq_true rfl) (fun p e s m below meth c A C0 hA hP hD hS ls hl => k_Mo_readStranger_b0 C0 s0 hA hP hD hS hf ls hl)
def wd_Mo_readEar (cy : Nat → ClassId) (o0 : Nat) (a0 : Nat → Nat) (g0 : Nat → Int32) (h0 : Nat → Int64) (x0_0 : Nat → Int32) (x0_10 : Nat → Int64) (x0_14 : Nat → Int32) : va_W := [(o0, .inr (11, fs_Mo a0 g0 h0)), (a0 0, .inl (cy 0, 1500, .inl x0_0)), (a0 10, .inl (cy 1, 48, .inr (.inl x0_10))), (a0 14, .inl (cy 0, 4, .inl x0_14))]
def rm_Mo_readEar : Room := { frames := 5, cells := 0, slots := 0, locals := 130 }
theorem rm_ok_Mo_readEar_Mo_newName : rm_Mo_newName.cells = 0 ∧ rm_Mo_newName.slots = 0 ∧ rm_Mo_newName.frames + 1 ≤ rm_Mo_readEar.frames ∧ 8 + (3 + 11) + rm_Mo_newName.locals ≤ rm_Mo_readEar.locals := by decide
theorem rm_ok_Mo_readEar_Mo_told : rm_Mo_told.cells = 0 ∧ rm_Mo_told.slots = 0 ∧ rm_Mo_told.frames + 1 ≤ rm_Mo_readEar.frames ∧ 8 + (5 + 11) + rm_Mo_told.locals ≤ rm_Mo_readEar.locals := by decide
set_option maxHeartbeats 4000000 in
set_option maxRecDepth 100000 in
theorem k_Mo_readEar_b0 {p : Program} {l : Launch} {e : Env} {s : State} {m : MethodId} {args : Array Value} {below : List Frame} {meth : Method} {c : Code} {dC : Nat → ClassId} {dI : Nat → Nat → Nat} {cy : Nat → ClassId} {A : Nat → Prop} {o0 : Nat} {a0 : Nat → Nat} {N : Nat} {y : zSt} (C0 : zCx p s m args meth c cX11_readEar 1 none RX11 (dC, dI) cy) (s0 : zSt) (hA : ∀ q, s.heap.size ≤ q → A q) {H : Heap} {locs : List Loc} (hP : va_P (dC, dI) vwCl (wd_Mo_readEar cy o0 a0 (zI s0) (zL s0) (zA s0 0) (zB s0 10) (zA s0 14)) H) (hD : va_D A (wd_Mo_readEar cy o0 a0 (zI s0) (zL s0) (zA s0 0) (zB s0 10) (zA s0 14))) (hS : va_S A s.heap H locs) (hf : Mo_readEar_b0 N s0 = some y) (ls : Array Slot) (hl : lv_has ls 1 [(0, .ref o0)]) : W p l e rm_Mo_readEar s m args below meth c H locs 0 0 (MQ below (zQv (dC, dI) cy (wd_Mo_readEar cy o0 a0 (zI y) (zL y) (zA y 0) (zB y 10) (zA y 14)) A) args s 0 0 A) (F0 m 0 ls []) := by
  obtain ⟨hx, hb, hr, hml, hown, hT, hk, hK⟩ := id C0
  refine lv_aload_n hx hb dX11_readEar_0 rfl (lv_at hl 0 rfl) ?_
  refine lv_bipush (v := 32) hx hb dX11_readEar_1 (by decide) ?_
  refine lv_aload_n hx hb dX11_readEar_3 rfl (lv_at hl 0 rfl) ?_
  refine zget (v := .int (zI s0 26)) hx hb hown hT hK hP inX11 rfl smX11 0 rfl 26 (by decide) tb_1028 rfl dX11_readEar_4 ?_
  obtain ⟨z1, hc2, hf⟩ := zbd_some hf
  refine zwv (wr := [(a0 14, .inl (cy 0, 4, .inl (zA s0 14)))]) (ws' := (wd_Mo_readEar cy o0 a0 (zI z1) (zL z1) (zA z1 0) (zB z1 10) (zA s0 14))) (zV (As := [.int 32, .int (zI s0 26)]) hx hb hml hown hT hl.1 (c_Mo_newName o0 a0 s0 32 (zI s0 26) hc2) zY_Mo_newName tb_1243 (zpRw hK hP hD [0, 1, 2] (by decide) rfl 0 11 rfl rfl rfl rfl) rm_ok_Mo_readEar_Mo_newName rfl rfl (Nat.le_of_ble_eq_true rfl) dX11_readEar_7 ⟨Nat.zero_le _, Nat.zero_le _⟩) hP hD hS hA [0, 1, 2] [3] [1, 2, 3, 0] rfl rfl (by decide) (by decide) (by decide) rfl rfl (fun H locs hP hD hS => ?_)
  refine lv_aload_n hx hb dX11_readEar_10 rfl (lv_at hl 0 rfl) ?_
  refine zget (v := .ref (a0 14)) hx hb hown hT hK hP inX11 rfl smX11 0 rfl 14 (by decide) tb_1016 rfl dX11_readEar_11 ?_
  refine lv_aload_n hx hb dX11_readEar_14 rfl (lv_at hl 0 rfl) ?_
  refine zget (v := .int (zI z1 26)) hx hb hown hT hK hP inX11 rfl smX11 0 rfl 26 (by decide) tb_1028 rfl dX11_readEar_15 ?_
  refine lv_aload_n hx hb dX11_readEar_18 rfl (lv_at hl 0 rfl) ?_
  refine lv_ldc2 (v := 24948) hx hb hown (hT _ tb_1257) dX11_readEar_19 ?_
  refine lv_iconst (v := 0) hx hb dX11_readEar_22 (by decide) ?_
  refine lv_bipush (v := 99) hx hb dX11_readEar_23 (by decide) ?_
  obtain ⟨z3, hc4, hf⟩ := zbd_some hf
  refine zwi (wr := [(a0 10, .inl (cy 1, 48, .inr (.inl (zB z1 10)))), (a0 14, .inl (cy 0, 4, .inl (zA s0 14)))]) (ws' := (wd_Mo_readEar cy o0 a0 (zI z3.2) (zL z3.2) (zA z3.2 0) (zB z1 10) (zA s0 14))) (zV (As := [.long 24948, .int 0, .int 99]) hx hb hml hown hT hl.1 (c_Mo_told o0 a0 (zmg [14] z1 s0) 24948 0 99 hc4) zY_Mo_told tb_1279 (zpRw hK hP hD [0, 1] (by decide) rfl 0 11 rfl rfl rfl rfl) rm_ok_Mo_readEar_Mo_told rfl rfl (Nat.le_of_ble_eq_true rfl) dX11_readEar_25 ⟨Nat.zero_le _, Nat.zero_le _⟩) hP hD hS hA [0, 1] [2, 3] [2, 3, 0, 1] rfl rfl (by decide) (by decide) (by decide) rfl rfl (fun H locs hP hD hS => ?_)
  obtain ⟨hi5, hf⟩ := zck_some hf
  refine zast (ws' := (wd_Mo_readEar cy o0 a0 (zI z3.2) (zL z3.2) (zA z3.2 0) (zB z1 10) (upd (zA s0 14) (Int32.toNatClampNeg (zI z1 26)) z3.1))) hx hb hK hP hD hS 3 0 rfl rfl hi5 rfl dX11_readEar_28 (fun H locs hP hD hS => ?_)
  refine lv_aload_n hx hb dX11_readEar_29 rfl (lv_at hl 0 rfl) ?_
  refine zget (v := .int (zI z3.2 2)) hx hb hown hT hK hP inX11 rfl smX11 0 rfl 2 (by decide) tb_1004 rfl dX11_readEar_30 ?_
  refine lv_if_ne (tgt := 46) hx hb dX11_readEar_33 (by decide) (fun hb_6 => ?_) (fun hb_6 => ?_)
  · have hf := zif_f hb_6 hf
    cases hf
    exact zewv hx hb hr hk hK hP hD hS dX11_readEar_46
  · have hf := zif_t hb_6 hf
    refine lv_aload_n hx hb dX11_readEar_36 rfl (lv_at hl 0 rfl) ?_
    refine lv_dup hx hb dX11_readEar_37 rfl ?_
    refine zget (v := .int (zI z3.2 26)) hx hb hown hT hK hP inX11 rfl smX11 0 rfl 26 (by decide) tb_1028 rfl dX11_readEar_38 ?_
    refine lv_iconst (v := 1) hx hb dX11_readEar_41 (by decide) ?_
    refine lv_iadd hx hb dX11_readEar_42 ?_
    refine zput (fs' := fs_Mo a0 (upd (zI z3.2) 26 ((zI z3.2 26) + 1)) (zL z3.2)) (ws' := (wd_Mo_readEar cy o0 a0 (upd (zI z3.2) 26 ((zI z3.2 26) + 1)) (zL z3.2) (zA z3.2 0) (zB z1 10) (upd (zA s0 14) (Int32.toNatClampNeg (zI z1 26)) z3.1))) hx hb hown hT hK hP hD hS inX11 rfl smX11 tyX11_ok nmX11 0 rfl 26 (by decide) tb_1028 rfl rfl rfl (Nat.le_of_ble_eq_true rfl) rfl rfl dX11_readEar_43 (fun H locs hP hD hS => ?_)
    cases hf
    exact zewv hx hb hr hk hK hP hD hS dX11_readEar_46
set_option maxHeartbeats 4000000 in
set_option maxRecDepth 100000 in
theorem c_Mo_readEar {l : Launch} {dC : Nat → ClassId} {dI : Nat → Nat → Nat} {cy : Nat → ClassId} {sz : Nat} {N : Nat} (o0 : Nat) (a0 : Nat → Nat) (s0 : zSt) {y : zSt} (hf : Mo_readEar N s0 = some y) : Met l yX11_readEar (.code yX11_readEar cX11_readEar 1 none :: zt) rm_Mo_readEar (va_Pc [.ref o0] (zPre (dC, dI) cy (wd_Mo_readEar cy o0 a0 (zI s0) (zL s0) (zA s0 0) (zB s0 10) (zA s0 14)) sz)) (zQv (dC, dI) cy (wd_Mo_readEar cy o0 a0 (zI y) (zL y) (zA y 0) (zB y 10) (zA y 14)) (va_A (wd_Mo_readEar cy o0 a0 (zI s0) (zL s0) (zA s0 0) (zB s0 10) (zA s0 14)) sz)) 0 0 (va_A (wd_Mo_readEar cy o0 a0 (zI s0) (zL s0) (zA s0 0) (zB s0 10) (zA s0 14)) sz) :=
  zentW (Qw := fun A => (zQv (dC, dI) cy (wd_Mo_readEar cy o0 a0 (zI y) (zL y) (zA y 0) (zB y 10) (zA y 14)) A)) (by decide +kernel) (Nat.le_of_ble_eq_true rfl) (fun p e s m below meth c A C0 hA hP hD hS ls hl => k_Mo_readEar_b0 C0 s0 hA hP hD hS hf ls hl)
def wd_Mo_old (cy : Nat → ClassId) (o0 : Nat) (a0 : Nat → Nat) (g0 : Nat → Int32) (h0 : Nat → Int64) (x0_10 : Nat → Int64) (x0_13 : Nat → Int32) : va_W := [(o0, .inr (11, fs_Mo a0 g0 h0)), (a0 10, .inl (cy 1, 48, .inr (.inl x0_10))), (a0 13, .inl (cy 0, 11, .inl x0_13))]
def rm_Mo_old : Room := { frames := 2, cells := 0, slots := 0, locals := 64 }
theorem rm_ok_Mo_old_Mo_find : rm_Mo_find.cells = 0 ∧ rm_Mo_find.slots = 0 ∧ rm_Mo_find.frames + 1 ≤ rm_Mo_old.frames ∧ 8 + (5 + 11) + rm_Mo_find.locals ≤ rm_Mo_old.locals := by decide
theorem rm_ok_Mo_old_Mo_isName : rm_Mo_isName.cells = 0 ∧ rm_Mo_isName.slots = 0 ∧ rm_Mo_isName.frames + 1 ≤ rm_Mo_old.frames ∧ 8 + (1 + 11) + rm_Mo_isName.locals ≤ rm_Mo_old.locals := by decide
theorem rm_ok_Mo_old_Mo_wrong : rm_Mo_wrong.cells = 0 ∧ rm_Mo_wrong.slots = 0 ∧ rm_Mo_wrong.frames + 1 ≤ rm_Mo_old.frames ∧ 8 + (2 + 11) + rm_Mo_wrong.locals ≤ rm_Mo_old.locals := by decide
set_option maxHeartbeats 4000000 in
set_option maxRecDepth 100000 in
theorem k_Mo_old_b48 {p : Program} {l : Launch} {e : Env} {s : State} {m : MethodId} {args : Array Value} {below : List Frame} {meth : Method} {c : Code} {dC : Nat → ClassId} {dI : Nat → Nat → Nat} {cy : Nat → ClassId} {A : Nat → Prop} {o0 : Nat} {a0 : Nat → Nat} {N : Nat} {y : Int32 × zSt} (C0 : zCx p s m args meth c cX11_old 2 (some .int) RX11 (dC, dI) cy) (s0 : zSt) (v1 : Int32) (hA : ∀ q, s.heap.size ≤ q → A q) {H : Heap} {locs : List Loc} (hP : va_P (dC, dI) vwCl (wd_Mo_old cy o0 a0 (zI s0) (zL s0) (zB s0 10) (zA s0 13)) H) (hD : va_D A (wd_Mo_old cy o0 a0 (zI s0) (zL s0) (zB s0 10) (zA s0 13))) (hS : va_S A s.heap H locs) (hf : Mo_old_b48 N s0 v1 = some y) (ls : Array Slot) (hl : lv_has ls 2 [(0, .ref o0), (1, .int v1)]) : W p l e rm_Mo_old s m args below meth c H locs 0 0 (MQ below (zQi y.1 (dC, dI) cy (wd_Mo_old cy o0 a0 (zI y.2) (zL y.2) (zB y.2 10) (zA y.2 13)) A) args s 0 0 A) (F0 m 48 ls []) := by
  obtain ⟨hx, hb, hr, hml, hown, hT, hk, hK⟩ := id C0
  refine lv_aload_n hx hb dX11_old_48 rfl (lv_at hl 0 rfl) ?_
  refine lv_iconst (v := 5) hx hb dX11_old_49 (by decide) ?_
  obtain ⟨z1, hc2, hf⟩ := zbd_some hf
  refine zwv (wr := [(a0 10, .inl (cy 1, 48, .inr (.inl (zB s0 10)))), (a0 13, .inl (cy 0, 11, .inl (zA s0 13)))]) (ws' := (wd_Mo_old cy o0 a0 (zI z1) (zL z1) (zB s0 10) (zA s0 13))) (zV (As := [.int 5]) hx hb hml hown hT hl.1 (c_Mo_wrong o0 a0 s0 5 hc2) zY_Mo_wrong tb_1259 (zpRw hK hP hD [0] (by decide) rfl 0 11 rfl rfl rfl rfl) rm_ok_Mo_old_Mo_wrong rfl rfl (Nat.le_of_ble_eq_true rfl) dX11_old_50 ⟨Nat.zero_le _, Nat.zero_le _⟩) hP hD hS hA [0] [1, 2] [2, 0, 1] rfl rfl (by decide) (by decide) (by decide) rfl rfl (fun H locs hP hD hS => ?_)
  refine lv_iload_n hx hb dX11_old_53 rfl (lv_at hl 1 rfl) ?_
  cases hf
  exact zewi hx hb hr hk hK hP hD hS dX11_old_54
set_option maxHeartbeats 4000000 in
set_option maxRecDepth 100000 in
theorem k_Mo_old_b0 {p : Program} {l : Launch} {e : Env} {s : State} {m : MethodId} {args : Array Value} {below : List Frame} {meth : Method} {c : Code} {dC : Nat → ClassId} {dI : Nat → Nat → Nat} {cy : Nat → ClassId} {A : Nat → Prop} {o0 : Nat} {a0 : Nat → Nat} {N : Nat} {y : Int32 × zSt} (C0 : zCx p s m args meth c cX11_old 2 (some .int) RX11 (dC, dI) cy) (s0 : zSt) (hA : ∀ q, s.heap.size ≤ q → A q) {H : Heap} {locs : List Loc} (hP : va_P (dC, dI) vwCl (wd_Mo_old cy o0 a0 (zI s0) (zL s0) (zB s0 10) (zA s0 13)) H) (hD : va_D A (wd_Mo_old cy o0 a0 (zI s0) (zL s0) (zB s0 10) (zA s0 13))) (hS : va_S A s.heap H locs) (hf : Mo_old_b0 N s0 = some y) (ls : Array Slot) (hl : lv_has ls 2 [(0, .ref o0)]) : W p l e rm_Mo_old s m args below meth c H locs 0 0 (MQ below (zQi y.1 (dC, dI) cy (wd_Mo_old cy o0 a0 (zI y.2) (zL y.2) (zB y.2 10) (zA y.2 13)) A) args s 0 0 A) (F0 m 0 ls []) := by
  obtain ⟨hx, hb, hr, hml, hown, hT, hk, hK⟩ := id C0
  refine lv_aload_n hx hb dX11_old_0 rfl (lv_at hl 0 rfl) ?_
  refine zget (v := .int (zI s0 2)) hx hb hown hT hK hP inX11 rfl smX11 0 rfl 2 (by decide) tb_1004 rfl dX11_old_1 ?_
  refine lv_if_le (tgt := 9) hx hb dX11_old_4 (by decide) (fun hb_1 => ?_) (fun hb_1 => ?_)
  · have hf := zif_t hb_1 hf
    refine lv_aload_n hx hb dX11_old_9 rfl (lv_at hl 0 rfl) ?_
    refine lv_bipush (v := 16) hx hb dX11_old_10 (by decide) ?_
    refine lv_aload_n hx hb dX11_old_12 rfl (lv_at hl 0 rfl) ?_
    refine zget (v := .int (zI s0 23)) hx hb hown hT hK hP inX11 rfl smX11 0 rfl 23 (by decide) tb_1025 rfl dX11_old_13 ?_
    obtain ⟨z2, hc3, hf⟩ := zbd_some hf
    refine zri (zV (As := [.int 16, .int (zI s0 23)]) hx hb hml hown hT hl.1 (c_Mo_find o0 a0 s0 16 (zI s0 23) hc3) zY_Mo_find tb_1263 (zpR hK hP [0, 1] rfl 0 11 rfl rfl rfl) rm_ok_Mo_old_Mo_find rfl rfl (Nat.le_of_ble_eq_true rfl) dX11_old_16 ⟨Nat.zero_le _, Nat.zero_le _⟩) ?_
    refine lv_istore_n (lv' := [(1, .int z2), (0, .ref o0)]) hx hb dX11_old_19 rfl hl (by decide) rfl (fun ls hl => ?_)
    refine lv_aload_n hx hb dX11_old_20 rfl (lv_at hl 1 rfl) ?_
    obtain ⟨z4, hc5, hf⟩ := zbd_some hf
    refine zri (zV (As := []) hx hb hml hown hT hl.1 (c_Mo_isName o0 a0 s0 hc5) zY_Mo_isName tb_1247 (zpR hK hP [0] rfl 0 11 rfl rfl rfl) rm_ok_Mo_old_Mo_isName rfl rfl (Nat.le_of_ble_eq_true rfl) dX11_old_21 ⟨Nat.zero_le _, Nat.zero_le _⟩) ?_
    refine lv_if_ne (tgt := 35) hx hb dX11_old_24 (by decide) (fun hb_6 => ?_) (fun hb_6 => ?_)
    · have hf := zif_f hb_6 hf
      refine lv_iload_n hx hb dX11_old_35 rfl (lv_at hl 0 rfl) ?_
      refine lv_if_lt (tgt := 48) hx hb dX11_old_36 (by decide) (fun hb_7 => ?_) (fun hb_7 => ?_)
      · have hf := zif_t hb_7 hf
        exact k_Mo_old_b48 C0 s0 z2  hA hP hD hS hf _ (lv_sub hl [1, 0] rfl)
      · have hf := zif_f hb_7 hf
        refine lv_aload_n hx hb dX11_old_39 rfl (lv_at hl 1 rfl) ?_
        refine zget (v := .ref (a0 13)) hx hb hown hT hK hP inX11 rfl smX11 0 rfl 13 (by decide) tb_1015 rfl dX11_old_40 ?_
        refine lv_iload_n hx hb dX11_old_43 rfl (lv_at hl 0 rfl) ?_
        obtain ⟨hi8, hf⟩ := zck_some hf
        refine va_iald hx hb hK.1 hP 2 0 rfl rfl hi8 dX11_old_44 ?_
        refine lv_if_ge (tgt := 53) hx hb dX11_old_45 (by decide) (fun hb_9 => ?_) (fun hb_9 => ?_)
        · have hf := zif_t hb_9 hf
          refine lv_iload_n hx hb dX11_old_53 rfl (lv_at hl 0 rfl) ?_
          cases hf
          exact zewi hx hb hr hk hK hP hD hS dX11_old_54
        · have hf := zif_f hb_9 hf
          exact k_Mo_old_b48 C0 s0 z2  hA hP hD hS hf _ (lv_sub hl [1, 0] rfl)
    · have hf := zif_t hb_6 hf
      refine lv_aload_n hx hb dX11_old_27 rfl (lv_at hl 1 rfl) ?_
      refine lv_iconst (v := 2) hx hb dX11_old_28 (by decide) ?_
      obtain ⟨z10, hc11, hf⟩ := zbd_some hf
      refine zwv (wr := [(a0 10, .inl (cy 1, 48, .inr (.inl (zB s0 10)))), (a0 13, .inl (cy 0, 11, .inl (zA s0 13)))]) (ws' := (wd_Mo_old cy o0 a0 (zI z10) (zL z10) (zB s0 10) (zA s0 13))) (zV (As := [.int 2]) hx hb hml hown hT hl.1 (c_Mo_wrong o0 a0 s0 2 hc11) zY_Mo_wrong tb_1259 (zpRw hK hP hD [0] (by decide) rfl 0 11 rfl rfl rfl rfl) rm_ok_Mo_old_Mo_wrong rfl rfl (Nat.le_of_ble_eq_true rfl) dX11_old_29 ⟨Nat.zero_le _, Nat.zero_le _⟩) hP hD hS hA [0] [1, 2] [2, 0, 1] rfl rfl (by decide) (by decide) (by decide) rfl rfl (fun H locs hP hD hS => ?_)
      refine lv_goto (tgt := 53) hx hb dX11_old_32 (by decide) ?_
      refine lv_iload_n hx hb dX11_old_53 rfl (lv_at hl 0 rfl) ?_
      cases hf
      exact zewi hx hb hr hk hK hP hD hS dX11_old_54
  · have hf := zif_f hb_1 hf
    refine lv_iconst (v := 0) hx hb dX11_old_7 (by decide) ?_
    cases hf
    exact zewi hx hb hr hk hK hP hD hS dX11_old_8
set_option maxHeartbeats 4000000 in
set_option maxRecDepth 100000 in
theorem c_Mo_old {l : Launch} {dC : Nat → ClassId} {dI : Nat → Nat → Nat} {cy : Nat → ClassId} {sz : Nat} {N : Nat} (o0 : Nat) (a0 : Nat → Nat) (s0 : zSt) {y : Int32 × zSt} (hf : Mo_old N s0 = some y) : Met l yX11_old (.code yX11_old cX11_old 2 (some .int) :: zt) rm_Mo_old (va_Pc [.ref o0] (zPre (dC, dI) cy (wd_Mo_old cy o0 a0 (zI s0) (zL s0) (zB s0 10) (zA s0 13)) sz)) (zQi y.1 (dC, dI) cy (wd_Mo_old cy o0 a0 (zI y.2) (zL y.2) (zB y.2 10) (zA y.2 13)) (va_A (wd_Mo_old cy o0 a0 (zI s0) (zL s0) (zB s0 10) (zA s0 13)) sz)) 0 0 (va_A (wd_Mo_old cy o0 a0 (zI s0) (zL s0) (zB s0 10) (zA s0 13)) sz) :=
  zentW (Qw := fun A => (zQi y.1 (dC, dI) cy (wd_Mo_old cy o0 a0 (zI y.2) (zL y.2) (zB y.2 10) (zA y.2 13)) A)) (by decide +kernel) (Nat.le_of_ble_eq_true rfl) (fun p e s m below meth c A C0 hA hP hD hS ls hl => k_Mo_old_b0 C0 s0 hA hP hD hS hf ls hl)
def wd_Mo_readBeside (cy : Nat → ClassId) (o0 : Nat) (a0 : Nat → Nat) (g0 : Nat → Int32) (h0 : Nat → Int64) (x0_0 : Nat → Int32) (x0_10 : Nat → Int64) (x0_13 : Nat → Int32) (x0_15 : Nat → Int32) : va_W := [(o0, .inr (11, fs_Mo a0 g0 h0)), (a0 0, .inl (cy 0, 1500, .inl x0_0)), (a0 10, .inl (cy 1, 48, .inr (.inl x0_10))), (a0 13, .inl (cy 0, 11, .inl x0_13)), (a0 15, .inl (cy 0, 11, .inl x0_15))]
def rm_Mo_readBeside : Room := { frames := 3, cells := 0, slots := 0, locals := 85 }
theorem rm_ok_Mo_readBeside_Mo_old : rm_Mo_old.cells = 0 ∧ rm_Mo_old.slots = 0 ∧ rm_Mo_old.frames + 1 ≤ rm_Mo_readBeside.frames ∧ 8 + (2 + 11) + rm_Mo_old.locals ≤ rm_Mo_readBeside.locals := by decide
theorem rm_ok_Mo_readBeside_Mo_token : rm_Mo_token.cells = 0 ∧ rm_Mo_token.slots = 0 ∧ rm_Mo_token.frames + 1 ≤ rm_Mo_readBeside.frames ∧ 8 + (3 + 11) + rm_Mo_token.locals ≤ rm_Mo_readBeside.locals := by decide
theorem rm_ok_Mo_readBeside_Mo_wrong : rm_Mo_wrong.cells = 0 ∧ rm_Mo_wrong.slots = 0 ∧ rm_Mo_wrong.frames + 1 ≤ rm_Mo_readBeside.frames ∧ 8 + (2 + 11) + rm_Mo_wrong.locals ≤ rm_Mo_readBeside.locals := by decide
set_option maxHeartbeats 4000000 in
set_option maxRecDepth 100000 in
theorem k_Mo_readBeside_b102 {p : Program} {l : Launch} {e : Env} {s : State} {m : MethodId} {args : Array Value} {below : List Frame} {meth : Method} {c : Code} {dC : Nat → ClassId} {dI : Nat → Nat → Nat} {cy : Nat → ClassId} {A : Nat → Prop} {o0 : Nat} {a0 : Nat → Nat} {N : Nat} {y : zSt} (C0 : zCx p s m args meth c cX11_readBeside 3 none RX11 (dC, dI) cy) (s0 : zSt) (hA : ∀ q, s.heap.size ≤ q → A q) {H : Heap} {locs : List Loc} (hP : va_P (dC, dI) vwCl (wd_Mo_readBeside cy o0 a0 (zI s0) (zL s0) (zA s0 0) (zB s0 10) (zA s0 13) (zA s0 15)) H) (hD : va_D A (wd_Mo_readBeside cy o0 a0 (zI s0) (zL s0) (zA s0 0) (zB s0 10) (zA s0 13) (zA s0 15))) (hS : va_S A s.heap H locs) (hf : Mo_readBeside_b102 N s0 = some y) (ls : Array Slot) (hl : lv_has ls 3 []) : W p l e rm_Mo_readBeside s m args below meth c H locs 0 0 (MQ below (zQv (dC, dI) cy (wd_Mo_readBeside cy o0 a0 (zI y) (zL y) (zA y 0) (zB y 10) (zA y 13) (zA y 15)) A) args s 0 0 A) (F0 m 102 ls []) := by
  obtain ⟨hx, hb, hr, hml, hown, hT, hk, hK⟩ := id C0
  cases hf
  exact zewv hx hb hr hk hK hP hD hS dX11_readBeside_102
set_option maxHeartbeats 4000000 in
set_option maxRecDepth 100000 in
theorem k_Mo_readBeside_b92 {p : Program} {l : Launch} {e : Env} {s : State} {m : MethodId} {args : Array Value} {below : List Frame} {meth : Method} {c : Code} {dC : Nat → ClassId} {dI : Nat → Nat → Nat} {cy : Nat → ClassId} {A : Nat → Prop} {o0 : Nat} {a0 : Nat → Nat} {N : Nat} {y : zSt} (C0 : zCx p s m args meth c cX11_readBeside 3 none RX11 (dC, dI) cy) (s0 : zSt) (hA : ∀ q, s.heap.size ≤ q → A q) {H : Heap} {locs : List Loc} (hP : va_P (dC, dI) vwCl (wd_Mo_readBeside cy o0 a0 (zI s0) (zL s0) (zA s0 0) (zB s0 10) (zA s0 13) (zA s0 15)) H) (hD : va_D A (wd_Mo_readBeside cy o0 a0 (zI s0) (zL s0) (zA s0 0) (zB s0 10) (zA s0 13) (zA s0 15))) (hS : va_S A s.heap H locs) (hf : Mo_readBeside_b92 N s0 = some y) (ls : Array Slot) (hl : lv_has ls 3 [(0, .ref o0)]) : W p l e rm_Mo_readBeside s m args below meth c H locs 0 0 (MQ below (zQv (dC, dI) cy (wd_Mo_readBeside cy o0 a0 (zI y) (zL y) (zA y 0) (zB y 10) (zA y 13) (zA y 15)) A) args s 0 0 A) (F0 m 92 ls []) := by
  obtain ⟨hx, hb, hr, hml, hown, hT, hk, hK⟩ := id C0
  refine lv_aload_n hx hb dX11_readBeside_92 rfl (lv_at hl 0 rfl) ?_
  refine lv_dup hx hb dX11_readBeside_93 rfl ?_
  refine zget (v := .int (zI s0 27)) hx hb hown hT hK hP inX11 rfl smX11 0 rfl 27 (by decide) tb_1029 rfl dX11_readBeside_94 ?_
  refine lv_iconst (v := 1) hx hb dX11_readBeside_97 (by decide) ?_
  refine lv_iadd hx hb dX11_readBeside_98 ?_
  refine zput (fs' := fs_Mo a0 (upd (zI s0) 27 ((zI s0 27) + 1)) (zL s0)) (ws' := (wd_Mo_readBeside cy o0 a0 (upd (zI s0) 27 ((zI s0 27) + 1)) (zL s0) (zA s0 0) (zB s0 10) (zA s0 13) (zA s0 15))) hx hb hown hT hK hP hD hS inX11 rfl smX11 tyX11_ok nmX11 0 rfl 27 (by decide) tb_1029 rfl rfl rfl (Nat.le_of_ble_eq_true rfl) rfl rfl dX11_readBeside_99 (fun H locs hP hD hS => ?_)
  exact k_Mo_readBeside_b102 C0 (zpI s0 27 ((zI s0 27) + 1))  hA hP hD hS hf _ (lv_sub hl [] rfl)
set_option maxHeartbeats 4000000 in
set_option maxRecDepth 100000 in
theorem k_Mo_readBeside_b56 {p : Program} {l : Launch} {e : Env} {s : State} {m : MethodId} {args : Array Value} {below : List Frame} {meth : Method} {c : Code} {dC : Nat → ClassId} {dI : Nat → Nat → Nat} {cy : Nat → ClassId} {A : Nat → Prop} {o0 : Nat} {a0 : Nat → Nat} {N : Nat} {y : zSt} (C0 : zCx p s m args meth c cX11_readBeside 3 none RX11 (dC, dI) cy) (s0 : zSt) (v1 : Int32) (v2 : Int32) (hA : ∀ q, s.heap.size ≤ q → A q) {H : Heap} {locs : List Loc} (hP : va_P (dC, dI) vwCl (wd_Mo_readBeside cy o0 a0 (zI s0) (zL s0) (zA s0 0) (zB s0 10) (zA s0 13) (zA s0 15)) H) (hD : va_D A (wd_Mo_readBeside cy o0 a0 (zI s0) (zL s0) (zA s0 0) (zB s0 10) (zA s0 13) (zA s0 15))) (hS : va_S A s.heap H locs) (hf : Mo_readBeside_b56 N s0 v1 v2 = some y) (ls : Array Slot) (hl : lv_has ls 3 [(0, .ref o0), (1, .int v1), (2, .int v2)]) : W p l e rm_Mo_readBeside s m args below meth c H locs 0 0 (MQ below (zQv (dC, dI) cy (wd_Mo_readBeside cy o0 a0 (zI y) (zL y) (zA y 0) (zB y 10) (zA y 13) (zA y 15)) A) args s 0 0 A) (F0 m 56 ls []) := by
  obtain ⟨hx, hb, hr, hml, hown, hT, hk, hK⟩ := id C0
  refine lv_aload_n hx hb dX11_readBeside_56 rfl (lv_at hl 0 rfl) ?_
  refine zget (v := .int (zI s0 2)) hx hb hown hT hK hP inX11 rfl smX11 0 rfl 2 (by decide) tb_1004 rfl dX11_readBeside_57 ?_
  refine lv_if_le (tgt := 64) hx hb dX11_readBeside_60 (by decide) (fun hb_1 => ?_) (fun hb_1 => ?_)
  · have hf := zif_t hb_1 hf
    refine lv_aload_n hx hb dX11_readBeside_64 rfl (lv_at hl 0 rfl) ?_
    obtain ⟨z2, hc3, hf⟩ := zbd_some hf
    refine zwv (wr := [(a0 10, .inl (cy 1, 48, .inr (.inl (zB s0 10)))), (a0 13, .inl (cy 0, 11, .inl (zA s0 13))), (a0 15, .inl (cy 0, 11, .inl (zA s0 15)))]) (ws' := (wd_Mo_readBeside cy o0 a0 (zI z2) (zL z2) (zA z2 0) (zB s0 10) (zA s0 13) (zA s0 15))) (zV (As := []) hx hb hml hown hT hl.1 (c_Mo_token o0 a0 s0 hc3) zY_Mo_token tb_1216 (zpRw hK hP hD [0, 1] (by decide) rfl 0 11 rfl rfl rfl rfl) rm_ok_Mo_readBeside_Mo_token rfl rfl (Nat.le_of_ble_eq_true rfl) dX11_readBeside_65 ⟨Nat.zero_le _, Nat.zero_le _⟩) hP hD hS hA [0, 1] [2, 3, 4] [3, 4, 0, 1, 2] rfl rfl (by decide) (by decide) (by decide) rfl rfl (fun H locs hP hD hS => ?_)
    refine lv_aload_n hx hb dX11_readBeside_68 rfl (lv_at hl 0 rfl) ?_
    refine zget (v := .ref (a0 15)) hx hb hown hT hK hP inX11 rfl smX11 0 rfl 15 (by decide) tb_1017 rfl dX11_readBeside_69 ?_
    refine lv_iload_n hx hb dX11_readBeside_72 rfl (lv_at hl 1 rfl) ?_
    refine lv_dup2_11 hx hb dX11_readBeside_73 rfl rfl ?_
    obtain ⟨hi4, hf⟩ := zck_some hf
    refine va_iald hx hb hK.1 hP 4 0 rfl rfl hi4 dX11_readBeside_74 ?_
    refine lv_iconst (v := 1) hx hb dX11_readBeside_75 (by decide) ?_
    refine lv_iload_n hx hb dX11_readBeside_76 rfl (lv_at hl 2 rfl) ?_
    refine lv_ishl hx hb dX11_readBeside_77 ?_
    refine lv_ior hx hb dX11_readBeside_78 ?_
    obtain ⟨hi5, hf⟩ := zck_some hf
    refine zast (ws' := (wd_Mo_readBeside cy o0 a0 (zI z2) (zL z2) (zA z2 0) (zB s0 10) (zA s0 13) (upd (zA s0 15) (Int32.toNatClampNeg v1) (((zA s0 15) (Int32.toNatClampNeg v1)) ||| ((1 : Int32) <<< (v2 &&& 31)))))) hx hb hK hP hD hS 4 0 rfl rfl hi5 rfl dX11_readBeside_79 (fun H locs hP hD hS => ?_)
    refine lv_aload_n hx hb dX11_readBeside_80 rfl (lv_at hl 0 rfl) ?_
    refine zget (v := .ref (a0 15)) hx hb hown hT hK hP inX11 rfl smX11 0 rfl 15 (by decide) tb_1017 rfl dX11_readBeside_81 ?_
    refine lv_iload_n hx hb dX11_readBeside_84 rfl (lv_at hl 2 rfl) ?_
    refine lv_dup2_11 hx hb dX11_readBeside_85 rfl rfl ?_
    obtain ⟨hi6, hf⟩ := zck_some hf
    refine va_iald hx hb hK.1 hP 4 0 rfl rfl hi6 dX11_readBeside_86 ?_
    refine lv_iconst (v := 1) hx hb dX11_readBeside_87 (by decide) ?_
    refine lv_iload_n hx hb dX11_readBeside_88 rfl (lv_at hl 1 rfl) ?_
    refine lv_ishl hx hb dX11_readBeside_89 ?_
    refine lv_ior hx hb dX11_readBeside_90 ?_
    obtain ⟨hi7, hf⟩ := zck_some hf
    refine zast (ws' := (wd_Mo_readBeside cy o0 a0 (zI z2) (zL z2) (zA z2 0) (zB s0 10) (zA s0 13) (upd (upd (zA s0 15) (Int32.toNatClampNeg v1) (((zA s0 15) (Int32.toNatClampNeg v1)) ||| ((1 : Int32) <<< (v2 &&& 31)))) (Int32.toNatClampNeg v2) (((upd (zA s0 15) (Int32.toNatClampNeg v1) (((zA s0 15) (Int32.toNatClampNeg v1)) ||| ((1 : Int32) <<< (v2 &&& 31)))) (Int32.toNatClampNeg v2)) ||| ((1 : Int32) <<< (v1 &&& 31)))))) hx hb hK hP hD hS 4 0 rfl rfl hi7 rfl dX11_readBeside_91 (fun H locs hP hD hS => ?_)
    exact k_Mo_readBeside_b92 C0 (zsA (zsA (zmg [10,13,15] z2 s0) 15 (upd (zA s0 15) (Int32.toNatClampNeg v1) (((zA s0 15) (Int32.toNatClampNeg v1)) ||| ((1 : Int32) <<< (v2 &&& 31))))) 15 (upd (upd (zA s0 15) (Int32.toNatClampNeg v1) (((zA s0 15) (Int32.toNatClampNeg v1)) ||| ((1 : Int32) <<< (v2 &&& 31)))) (Int32.toNatClampNeg v2) (((upd (zA s0 15) (Int32.toNatClampNeg v1) (((zA s0 15) (Int32.toNatClampNeg v1)) ||| ((1 : Int32) <<< (v2 &&& 31)))) (Int32.toNatClampNeg v2)) ||| ((1 : Int32) <<< (v1 &&& 31)))))  hA hP hD hS hf _ (lv_sub hl [0] rfl)
  · have hf := zif_f hb_1 hf
    cases hf
    exact zewv hx hb hr hk hK hP hD hS dX11_readBeside_63
set_option maxHeartbeats 4000000 in
set_option maxRecDepth 100000 in
theorem k_Mo_readBeside_b51 {p : Program} {l : Launch} {e : Env} {s : State} {m : MethodId} {args : Array Value} {below : List Frame} {meth : Method} {c : Code} {dC : Nat → ClassId} {dI : Nat → Nat → Nat} {cy : Nat → ClassId} {A : Nat → Prop} {o0 : Nat} {a0 : Nat → Nat} {N : Nat} {y : zSt} (C0 : zCx p s m args meth c cX11_readBeside 3 none RX11 (dC, dI) cy) (s0 : zSt) (v1 : Int32) (v2 : Int32) (hA : ∀ q, s.heap.size ≤ q → A q) {H : Heap} {locs : List Loc} (hP : va_P (dC, dI) vwCl (wd_Mo_readBeside cy o0 a0 (zI s0) (zL s0) (zA s0 0) (zB s0 10) (zA s0 13) (zA s0 15)) H) (hD : va_D A (wd_Mo_readBeside cy o0 a0 (zI s0) (zL s0) (zA s0 0) (zB s0 10) (zA s0 13) (zA s0 15))) (hS : va_S A s.heap H locs) (hf : Mo_readBeside_b51 N s0 v1 v2 = some y) (ls : Array Slot) (hl : lv_has ls 3 [(0, .ref o0), (1, .int v1), (2, .int v2)]) : W p l e rm_Mo_readBeside s m args below meth c H locs 0 0 (MQ below (zQv (dC, dI) cy (wd_Mo_readBeside cy o0 a0 (zI y) (zL y) (zA y 0) (zB y 10) (zA y 13) (zA y 15)) A) args s 0 0 A) (F0 m 51 ls []) := by
  obtain ⟨hx, hb, hr, hml, hown, hT, hk, hK⟩ := id C0
  refine lv_aload_n hx hb dX11_readBeside_51 rfl (lv_at hl 0 rfl) ?_
  refine lv_iconst (v := 3) hx hb dX11_readBeside_52 (by decide) ?_
  obtain ⟨z1, hc2, hf⟩ := zbd_some hf
  refine zwv (wr := [(a0 0, .inl (cy 0, 1500, .inl (zA s0 0))), (a0 10, .inl (cy 1, 48, .inr (.inl (zB s0 10)))), (a0 13, .inl (cy 0, 11, .inl (zA s0 13))), (a0 15, .inl (cy 0, 11, .inl (zA s0 15)))]) (ws' := (wd_Mo_readBeside cy o0 a0 (zI z1) (zL z1) (zA s0 0) (zB s0 10) (zA s0 13) (zA s0 15))) (zV (As := [.int 3]) hx hb hml hown hT hl.1 (c_Mo_wrong o0 a0 s0 3 hc2) zY_Mo_wrong tb_1259 (zpRw hK hP hD [0] (by decide) rfl 0 11 rfl rfl rfl rfl) rm_ok_Mo_readBeside_Mo_wrong rfl rfl (Nat.le_of_ble_eq_true rfl) dX11_readBeside_53 ⟨Nat.zero_le _, Nat.zero_le _⟩) hP hD hS hA [0] [1, 2, 3, 4] [4, 0, 1, 2, 3] rfl rfl (by decide) (by decide) (by decide) rfl rfl (fun H locs hP hD hS => ?_)
  exact k_Mo_readBeside_b56 C0 (zmg [0,10,13,15] z1 s0) v1 v2  hA hP hD hS hf _ (lv_sub hl [0, 1, 2] rfl)
set_option maxHeartbeats 4000000 in
set_option maxRecDepth 100000 in
theorem k_Mo_readBeside_b20 {p : Program} {l : Launch} {e : Env} {s : State} {m : MethodId} {args : Array Value} {below : List Frame} {meth : Method} {c : Code} {dC : Nat → ClassId} {dI : Nat → Nat → Nat} {cy : Nat → ClassId} {A : Nat → Prop} {o0 : Nat} {a0 : Nat → Nat} {N : Nat} {y : zSt} (C0 : zCx p s m args meth c cX11_readBeside 3 none RX11 (dC, dI) cy) (s0 : zSt) (v1 : Int32) (hA : ∀ q, s.heap.size ≤ q → A q) {H : Heap} {locs : List Loc} (hP : va_P (dC, dI) vwCl (wd_Mo_readBeside cy o0 a0 (zI s0) (zL s0) (zA s0 0) (zB s0 10) (zA s0 13) (zA s0 15)) H) (hD : va_D A (wd_Mo_readBeside cy o0 a0 (zI s0) (zL s0) (zA s0 0) (zB s0 10) (zA s0 13) (zA s0 15))) (hS : va_S A s.heap H locs) (hf : Mo_readBeside_b20 N s0 v1 = some y) (ls : Array Slot) (hl : lv_has ls 3 [(0, .ref o0), (1, .int v1)]) : W p l e rm_Mo_readBeside s m args below meth c H locs 0 0 (MQ below (zQv (dC, dI) cy (wd_Mo_readBeside cy o0 a0 (zI y) (zL y) (zA y 0) (zB y 10) (zA y 13) (zA y 15)) A) args s 0 0 A) (F0 m 20 ls []) := by
  obtain ⟨hx, hb, hr, hml, hown, hT, hk, hK⟩ := id C0
  refine lv_aload_n hx hb dX11_readBeside_20 rfl (lv_at hl 0 rfl) ?_
  obtain ⟨z1, hc2, hf⟩ := zbd_some hf
  refine zwi (wr := [(a0 0, .inl (cy 0, 1500, .inl (zA s0 0))), (a0 15, .inl (cy 0, 11, .inl (zA s0 15)))]) (ws' := (wd_Mo_readBeside cy o0 a0 (zI z1.2) (zL z1.2) (zA s0 0) (zB z1.2 10) (zA z1.2 13) (zA s0 15))) (zV (As := []) hx hb hml hown hT hl.1 (c_Mo_old o0 a0 s0 hc2) zY_Mo_old tb_1299 (zpRw hK hP hD [0, 2, 3] (by decide) rfl 0 11 rfl rfl rfl rfl) rm_ok_Mo_readBeside_Mo_old rfl rfl (Nat.le_of_ble_eq_true rfl) dX11_readBeside_21 ⟨Nat.zero_le _, Nat.zero_le _⟩) hP hD hS hA [0, 2, 3] [1, 4] [2, 0, 3, 4, 1] rfl rfl (by decide) (by decide) (by decide) rfl rfl (fun H locs hP hD hS => ?_)
  refine lv_istore_n (lv' := [(2, .int z1.1), (0, .ref o0), (1, .int v1)]) hx hb dX11_readBeside_24 rfl hl (by decide) rfl (fun ls hl => ?_)
  refine lv_aload_n hx hb dX11_readBeside_25 rfl (lv_at hl 1 rfl) ?_
  refine zget (v := .int (zI z1.2 2)) hx hb hown hT hK hP inX11 rfl smX11 0 rfl 2 (by decide) tb_1004 rfl dX11_readBeside_26 ?_
  refine lv_if_ne (tgt := 56) hx hb dX11_readBeside_29 (by decide) (fun hb_3 => ?_) (fun hb_3 => ?_)
  · have hf := zif_f hb_3 hf
    exact k_Mo_readBeside_b56 C0 (zmg [0,15] z1.2 s0) v1 z1.1  hA hP hD hS hf _ (lv_sub hl [1, 2, 0] rfl)
  · have hf := zif_t hb_3 hf
    refine lv_iload_n hx hb dX11_readBeside_32 rfl (lv_at hl 2 rfl) ?_
    refine lv_iload_n hx hb dX11_readBeside_33 rfl (lv_at hl 0 rfl) ?_
    refine lv_icmp_eq (tgt := 51) hx hb dX11_readBeside_34 (by decide) (fun hb_4 => ?_) (fun hb_4 => ?_)
    · have hf := zif_t hb_4 hf
      exact k_Mo_readBeside_b51 C0 (zmg [0,15] z1.2 s0) v1 z1.1  hA hP hD hS hf _ (lv_sub hl [1, 2, 0] rfl)
    · have hf := zif_f hb_4 hf
      refine lv_aload_n hx hb dX11_readBeside_37 rfl (lv_at hl 1 rfl) ?_
      refine zget (v := .ref (a0 15)) hx hb hown hT hK hP inX11 rfl smX11 0 rfl 15 (by decide) tb_1017 rfl dX11_readBeside_38 ?_
      refine lv_iload_n hx hb dX11_readBeside_41 rfl (lv_at hl 2 rfl) ?_
      obtain ⟨hi5, hf⟩ := zck_some hf
      refine va_iald hx hb hK.1 hP 4 0 rfl rfl hi5 dX11_readBeside_42 ?_
      refine lv_iload_n hx hb dX11_readBeside_43 rfl (lv_at hl 0 rfl) ?_
      refine lv_ishr hx hb dX11_readBeside_44 ?_
      refine lv_iconst (v := 1) hx hb dX11_readBeside_45 (by decide) ?_
      refine lv_iand hx hb dX11_readBeside_46 ?_
      refine lv_iconst (v := 1) hx hb dX11_readBeside_47 (by decide) ?_
      refine lv_icmp_ne (tgt := 56) hx hb dX11_readBeside_48 (by decide) (fun hb_6 => ?_) (fun hb_6 => ?_)
      · have hf := zif_f hb_6 hf
        exact k_Mo_readBeside_b56 C0 (zmg [0,15] z1.2 s0) v1 z1.1  hA hP hD hS hf _ (lv_sub hl [1, 2, 0] rfl)
      · have hf := zif_t hb_6 hf
        exact k_Mo_readBeside_b51 C0 (zmg [0,15] z1.2 s0) v1 z1.1  hA hP hD hS hf _ (lv_sub hl [1, 2, 0] rfl)
set_option maxHeartbeats 4000000 in
set_option maxRecDepth 100000 in
theorem k_Mo_readBeside_b0 {p : Program} {l : Launch} {e : Env} {s : State} {m : MethodId} {args : Array Value} {below : List Frame} {meth : Method} {c : Code} {dC : Nat → ClassId} {dI : Nat → Nat → Nat} {cy : Nat → ClassId} {A : Nat → Prop} {o0 : Nat} {a0 : Nat → Nat} {N : Nat} {y : zSt} (C0 : zCx p s m args meth c cX11_readBeside 3 none RX11 (dC, dI) cy) (s0 : zSt) (hA : ∀ q, s.heap.size ≤ q → A q) {H : Heap} {locs : List Loc} (hP : va_P (dC, dI) vwCl (wd_Mo_readBeside cy o0 a0 (zI s0) (zL s0) (zA s0 0) (zB s0 10) (zA s0 13) (zA s0 15)) H) (hD : va_D A (wd_Mo_readBeside cy o0 a0 (zI s0) (zL s0) (zA s0 0) (zB s0 10) (zA s0 13) (zA s0 15))) (hS : va_S A s.heap H locs) (hf : Mo_readBeside_b0 N s0 = some y) (ls : Array Slot) (hl : lv_has ls 3 [(0, .ref o0)]) : W p l e rm_Mo_readBeside s m args below meth c H locs 0 0 (MQ below (zQv (dC, dI) cy (wd_Mo_readBeside cy o0 a0 (zI y) (zL y) (zA y 0) (zB y 10) (zA y 13) (zA y 15)) A) args s 0 0 A) (F0 m 0 ls []) := by
  obtain ⟨hx, hb, hr, hml, hown, hT, hk, hK⟩ := id C0
  refine lv_aload_n hx hb dX11_readBeside_0 rfl (lv_at hl 0 rfl) ?_
  obtain ⟨z1, hc2, hf⟩ := zbd_some hf
  refine zwv (wr := [(a0 10, .inl (cy 1, 48, .inr (.inl (zB s0 10)))), (a0 13, .inl (cy 0, 11, .inl (zA s0 13))), (a0 15, .inl (cy 0, 11, .inl (zA s0 15)))]) (ws' := (wd_Mo_readBeside cy o0 a0 (zI z1) (zL z1) (zA z1 0) (zB s0 10) (zA s0 13) (zA s0 15))) (zV (As := []) hx hb hml hown hT hl.1 (c_Mo_token o0 a0 s0 hc2) zY_Mo_token tb_1216 (zpRw hK hP hD [0, 1] (by decide) rfl 0 11 rfl rfl rfl rfl) rm_ok_Mo_readBeside_Mo_token rfl rfl (Nat.le_of_ble_eq_true rfl) dX11_readBeside_1 ⟨Nat.zero_le _, Nat.zero_le _⟩) hP hD hS hA [0, 1] [2, 3, 4] [3, 4, 0, 1, 2] rfl rfl (by decide) (by decide) (by decide) rfl rfl (fun H locs hP hD hS => ?_)
  refine lv_aload_n hx hb dX11_readBeside_4 rfl (lv_at hl 0 rfl) ?_
  obtain ⟨z3, hc4, hf⟩ := zbd_some hf
  refine zwi (wr := [(a0 0, .inl (cy 0, 1500, .inl (zA z1 0))), (a0 15, .inl (cy 0, 11, .inl (zA s0 15)))]) (ws' := (wd_Mo_readBeside cy o0 a0 (zI z3.2) (zL z3.2) (zA z1 0) (zB z3.2 10) (zA z3.2 13) (zA s0 15))) (zV (As := []) hx hb hml hown hT hl.1 (c_Mo_old o0 a0 (zmg [10,13,15] z1 s0) hc4) zY_Mo_old tb_1299 (zpRw hK hP hD [0, 2, 3] (by decide) rfl 0 11 rfl rfl rfl rfl) rm_ok_Mo_readBeside_Mo_old rfl rfl (Nat.le_of_ble_eq_true rfl) dX11_readBeside_5 ⟨Nat.zero_le _, Nat.zero_le _⟩) hP hD hS hA [0, 2, 3] [1, 4] [2, 0, 3, 4, 1] rfl rfl (by decide) (by decide) (by decide) rfl rfl (fun H locs hP hD hS => ?_)
  refine lv_istore_n (lv' := [(1, .int z3.1), (0, .ref o0)]) hx hb dX11_readBeside_8 rfl hl (by decide) rfl (fun ls hl => ?_)
  refine lv_aload_n hx hb dX11_readBeside_9 rfl (lv_at hl 1 rfl) ?_
  refine zget (v := .int (zI z3.2 2)) hx hb hown hT hK hP inX11 rfl smX11 0 rfl 2 (by decide) tb_1004 rfl dX11_readBeside_10 ?_
  refine lv_if_ne (tgt := 20) hx hb dX11_readBeside_13 (by decide) (fun hb_5 => ?_) (fun hb_5 => ?_)
  · have hf := zif_f hb_5 hf
    exact k_Mo_readBeside_b20 C0 (zmg [0,15] z3.2 (zmg [10,13,15] z1 s0)) z3.1  hA hP hD hS hf _ (lv_sub hl [1, 0] rfl)
  · have hf := zif_t hb_5 hf
    refine lv_aload_n hx hb dX11_readBeside_16 rfl (lv_at hl 1 rfl) ?_
    obtain ⟨z6, hc7, hf⟩ := zbd_some hf
    refine zwv (wr := [(a0 10, .inl (cy 1, 48, .inr (.inl (zB z3.2 10)))), (a0 13, .inl (cy 0, 11, .inl (zA z3.2 13))), (a0 15, .inl (cy 0, 11, .inl (zA s0 15)))]) (ws' := (wd_Mo_readBeside cy o0 a0 (zI z6) (zL z6) (zA z6 0) (zB z3.2 10) (zA z3.2 13) (zA s0 15))) (zV (As := []) hx hb hml hown hT hl.1 (c_Mo_token o0 a0 (zmg [0,15] z3.2 (zmg [10,13,15] z1 s0)) hc7) zY_Mo_token tb_1216 (zpRw hK hP hD [0, 1] (by decide) rfl 0 11 rfl rfl rfl rfl) rm_ok_Mo_readBeside_Mo_token rfl rfl (Nat.le_of_ble_eq_true rfl) dX11_readBeside_17 ⟨Nat.zero_le _, Nat.zero_le _⟩) hP hD hS hA [0, 1] [2, 3, 4] [3, 4, 0, 1, 2] rfl rfl (by decide) (by decide) (by decide) rfl rfl (fun H locs hP hD hS => ?_)
    exact k_Mo_readBeside_b20 C0 (zmg [10,13,15] z6 (zmg [0,15] z3.2 (zmg [10,13,15] z1 s0))) z3.1  hA hP hD hS hf _ (lv_sub hl [1, 0] rfl)
set_option maxHeartbeats 4000000 in
set_option maxRecDepth 100000 in
theorem c_Mo_readBeside {l : Launch} {dC : Nat → ClassId} {dI : Nat → Nat → Nat} {cy : Nat → ClassId} {sz : Nat} {N : Nat} (o0 : Nat) (a0 : Nat → Nat) (s0 : zSt) {y : zSt} (hf : Mo_readBeside N s0 = some y) : Met l yX11_readBeside (.code yX11_readBeside cX11_readBeside 3 none :: zt) rm_Mo_readBeside (va_Pc [.ref o0] (zPre (dC, dI) cy (wd_Mo_readBeside cy o0 a0 (zI s0) (zL s0) (zA s0 0) (zB s0 10) (zA s0 13) (zA s0 15)) sz)) (zQv (dC, dI) cy (wd_Mo_readBeside cy o0 a0 (zI y) (zL y) (zA y 0) (zB y 10) (zA y 13) (zA y 15)) (va_A (wd_Mo_readBeside cy o0 a0 (zI s0) (zL s0) (zA s0 0) (zB s0 10) (zA s0 13) (zA s0 15)) sz)) 0 0 (va_A (wd_Mo_readBeside cy o0 a0 (zI s0) (zL s0) (zA s0 0) (zB s0 10) (zA s0 13) (zA s0 15)) sz) :=
  zentW (Qw := fun A => (zQv (dC, dI) cy (wd_Mo_readBeside cy o0 a0 (zI y) (zL y) (zA y 0) (zB y 10) (zA y 13) (zA y 15)) A)) (by decide +kernel) (Nat.le_of_ble_eq_true rfl) (fun p e s m below meth c A C0 hA hP hD hS ls hl => k_Mo_readBeside_b0 C0 s0 hA hP hD hS hf ls hl)
def wd_Mo_readLine (cy : Nat → ClassId) (o0 : Nat) (a0 : Nat → Nat) (g0 : Nat → Int32) (h0 : Nat → Int64) (x0_0 : Nat → Int32) (x0_10 : Nat → Int64) (x0_11 : Nat → Int32) (x0_12 : Nat → Int32) (x0_13 : Nat → Int32) (x0_14 : Nat → Int32) (x0_15 : Nat → Int32) : va_W := [(o0, .inr (11, fs_Mo a0 g0 h0)), (a0 0, .inl (cy 0, 1500, .inl x0_0)), (a0 10, .inl (cy 1, 48, .inr (.inl x0_10))), (a0 11, .inl (cy 0, 11, .inl x0_11)), (a0 12, .inl (cy 0, 11, .inl x0_12)), (a0 13, .inl (cy 0, 11, .inl x0_13)), (a0 14, .inl (cy 0, 4, .inl x0_14)), (a0 15, .inl (cy 0, 11, .inl x0_15))]
def rm_Mo_readLine : Room := { frames := 7, cells := 0, slots := 0, locals := 172 }
theorem rm_ok_Mo_readLine_Mo_isWord : rm_Mo_isWord.cells = 0 ∧ rm_Mo_isWord.slots = 0 ∧ rm_Mo_isWord.frames + 1 ≤ rm_Mo_readLine.frames ∧ 8 + (3 + 11) + rm_Mo_isWord.locals ≤ rm_Mo_readLine.locals := by decide
theorem rm_ok_Mo_readLine_Mo_readBeast : rm_Mo_readBeast.cells = 0 ∧ rm_Mo_readBeast.slots = 0 ∧ rm_Mo_readBeast.frames + 1 ≤ rm_Mo_readLine.frames ∧ 8 + (2 + 11) + rm_Mo_readBeast.locals ≤ rm_Mo_readLine.locals := by decide
theorem rm_ok_Mo_readLine_Mo_readBeside : rm_Mo_readBeside.cells = 0 ∧ rm_Mo_readBeside.slots = 0 ∧ rm_Mo_readBeside.frames + 1 ≤ rm_Mo_readLine.frames ∧ 8 + (3 + 11) + rm_Mo_readBeside.locals ≤ rm_Mo_readLine.locals := by decide
theorem rm_ok_Mo_readLine_Mo_readEar : rm_Mo_readEar.cells = 0 ∧ rm_Mo_readEar.slots = 0 ∧ rm_Mo_readEar.frames + 1 ≤ rm_Mo_readLine.frames ∧ 8 + (1 + 11) + rm_Mo_readEar.locals ≤ rm_Mo_readLine.locals := by decide
theorem rm_ok_Mo_readLine_Mo_readHerd : rm_Mo_readHerd.cells = 0 ∧ rm_Mo_readHerd.slots = 0 ∧ rm_Mo_readHerd.frames + 1 ≤ rm_Mo_readLine.frames ∧ 8 + (1 + 11) + rm_Mo_readHerd.locals ≤ rm_Mo_readLine.locals := by decide
theorem rm_ok_Mo_readLine_Mo_readStranger : rm_Mo_readStranger.cells = 0 ∧ rm_Mo_readStranger.slots = 0 ∧ rm_Mo_readStranger.frames + 1 ≤ rm_Mo_readLine.frames ∧ 8 + (1 + 11) + rm_Mo_readStranger.locals ≤ rm_Mo_readLine.locals := by decide
theorem rm_ok_Mo_readLine_Mo_token : rm_Mo_token.cells = 0 ∧ rm_Mo_token.slots = 0 ∧ rm_Mo_token.frames + 1 ≤ rm_Mo_readLine.frames ∧ 8 + (3 + 11) + rm_Mo_token.locals ≤ rm_Mo_readLine.locals := by decide
theorem rm_ok_Mo_readLine_Mo_wrong : rm_Mo_wrong.cells = 0 ∧ rm_Mo_wrong.slots = 0 ∧ rm_Mo_wrong.frames + 1 ≤ rm_Mo_readLine.frames ∧ 8 + (2 + 11) + rm_Mo_wrong.locals ≤ rm_Mo_readLine.locals := by decide
set_option maxHeartbeats 4000000 in
set_option maxRecDepth 100000 in
theorem k_Mo_readLine_b153 {p : Program} {l : Launch} {e : Env} {s : State} {m : MethodId} {args : Array Value} {below : List Frame} {meth : Method} {c : Code} {dC : Nat → ClassId} {dI : Nat → Nat → Nat} {cy : Nat → ClassId} {A : Nat → Prop} {o0 : Nat} {a0 : Nat → Nat} {N : Nat} {y : zSt} (C0 : zCx p s m args meth c cX11_readLine 1 none RX11 (dC, dI) cy) (s0 : zSt) (hA : ∀ q, s.heap.size ≤ q → A q) {H : Heap} {locs : List Loc} (hP : va_P (dC, dI) vwCl (wd_Mo_readLine cy o0 a0 (zI s0) (zL s0) (zA s0 0) (zB s0 10) (zA s0 11) (zA s0 12) (zA s0 13) (zA s0 14) (zA s0 15)) H) (hD : va_D A (wd_Mo_readLine cy o0 a0 (zI s0) (zL s0) (zA s0 0) (zB s0 10) (zA s0 11) (zA s0 12) (zA s0 13) (zA s0 14) (zA s0 15))) (hS : va_S A s.heap H locs) (hf : Mo_readLine_b153 N s0 = some y) (ls : Array Slot) (hl : lv_has ls 1 [(0, .ref o0)]) : W p l e rm_Mo_readLine s m args below meth c H locs 0 0 (MQ below (zQv (dC, dI) cy (wd_Mo_readLine cy o0 a0 (zI y) (zL y) (zA y 0) (zB y 10) (zA y 11) (zA y 12) (zA y 13) (zA y 14) (zA y 15)) A) args s 0 0 A) (F0 m 153 ls []) := by
  obtain ⟨hx, hb, hr, hml, hown, hT, hk, hK⟩ := id C0
  refine lv_aload_n hx hb dX11_readLine_153 rfl (lv_at hl 0 rfl) ?_
  refine zget (v := .int (zI s0 2)) hx hb hown hT hK hP inX11 rfl smX11 0 rfl 2 (by decide) tb_1004 rfl dX11_readLine_154 ?_
  refine lv_if_ne (tgt := 164) hx hb dX11_readLine_157 (by decide) (fun hb_1 => ?_) (fun hb_1 => ?_)
  · have hf := zif_f hb_1 hf
    cases hf
    exact zewv hx hb hr hk hK hP hD hS dX11_readLine_164
  · have hf := zif_t hb_1 hf
    refine lv_aload_n hx hb dX11_readLine_160 rfl (lv_at hl 0 rfl) ?_
    obtain ⟨z2, hc3, hf⟩ := zbd_some hf
    refine zwv (wr := [(a0 10, .inl (cy 1, 48, .inr (.inl (zB s0 10)))), (a0 11, .inl (cy 0, 11, .inl (zA s0 11))), (a0 12, .inl (cy 0, 11, .inl (zA s0 12))), (a0 13, .inl (cy 0, 11, .inl (zA s0 13))), (a0 14, .inl (cy 0, 4, .inl (zA s0 14))), (a0 15, .inl (cy 0, 11, .inl (zA s0 15)))]) (ws' := (wd_Mo_readLine cy o0 a0 (zI z2) (zL z2) (zA z2 0) (zB s0 10) (zA s0 11) (zA s0 12) (zA s0 13) (zA s0 14) (zA s0 15))) (zV (As := []) hx hb hml hown hT hl.1 (c_Mo_token o0 a0 s0 hc3) zY_Mo_token tb_1216 (zpRw hK hP hD [0, 1] (by decide) rfl 0 11 rfl rfl rfl rfl) rm_ok_Mo_readLine_Mo_token rfl rfl (Nat.le_of_ble_eq_true rfl) dX11_readLine_161 ⟨Nat.zero_le _, Nat.zero_le _⟩) hP hD hS hA [0, 1] [2, 3, 4, 5, 6, 7] [6, 7, 0, 1, 2, 3, 4, 5] rfl rfl (by decide) (by decide) (by decide) rfl rfl (fun H locs hP hD hS => ?_)
    cases hf
    exact zewv hx hb hr hk hK hP hD hS dX11_readLine_164
set_option maxHeartbeats 4000000 in
set_option maxRecDepth 100000 in
theorem k_Mo_readLine_b132 {p : Program} {l : Launch} {e : Env} {s : State} {m : MethodId} {args : Array Value} {below : List Frame} {meth : Method} {c : Code} {dC : Nat → ClassId} {dI : Nat → Nat → Nat} {cy : Nat → ClassId} {A : Nat → Prop} {o0 : Nat} {a0 : Nat → Nat} {N : Nat} {y : zSt} (C0 : zCx p s m args meth c cX11_readLine 1 none RX11 (dC, dI) cy) (s0 : zSt) (hA : ∀ q, s.heap.size ≤ q → A q) {H : Heap} {locs : List Loc} (hP : va_P (dC, dI) vwCl (wd_Mo_readLine cy o0 a0 (zI s0) (zL s0) (zA s0 0) (zB s0 10) (zA s0 11) (zA s0 12) (zA s0 13) (zA s0 14) (zA s0 15)) H) (hD : va_D A (wd_Mo_readLine cy o0 a0 (zI s0) (zL s0) (zA s0 0) (zB s0 10) (zA s0 11) (zA s0 12) (zA s0 13) (zA s0 14) (zA s0 15))) (hS : va_S A s.heap H locs) (hf : Mo_readLine_b132 N s0 = some y) (ls : Array Slot) (hl : lv_has ls 1 [(0, .ref o0)]) : W p l e rm_Mo_readLine s m args below meth c H locs 0 0 (MQ below (zQv (dC, dI) cy (wd_Mo_readLine cy o0 a0 (zI y) (zL y) (zA y 0) (zB y 10) (zA y 11) (zA y 12) (zA y 13) (zA y 14) (zA y 15)) A) args s 0 0 A) (F0 m 132 ls []) := by
  obtain ⟨hx, hb, hr, hml, hown, hT, hk, hK⟩ := id C0
  refine lv_aload_n hx hb dX11_readLine_132 rfl (lv_at hl 0 rfl) ?_
  refine zget (v := .int (zI s0 2)) hx hb hown hT hK hP inX11 rfl smX11 0 rfl 2 (by decide) tb_1004 rfl dX11_readLine_133 ?_
  refine lv_if_ne (tgt := 153) hx hb dX11_readLine_136 (by decide) (fun hb_1 => ?_) (fun hb_1 => ?_)
  · have hf := zif_f hb_1 hf
    exact k_Mo_readLine_b153 C0 s0  hA hP hD hS hf _ (lv_sub hl [0] rfl)
  · have hf := zif_t hb_1 hf
    refine lv_aload_n hx hb dX11_readLine_139 rfl (lv_at hl 0 rfl) ?_
    refine zget (v := .int (zI s0 6)) hx hb hown hT hK hP inX11 rfl smX11 0 rfl 6 (by decide) tb_1008 rfl dX11_readLine_140 ?_
    refine lv_bipush (v := 59) hx hb dX11_readLine_143 (by decide) ?_
    refine lv_icmp_eq (tgt := 153) hx hb dX11_readLine_145 (by decide) (fun hb_2 => ?_) (fun hb_2 => ?_)
    · have hf := zif_t hb_2 hf
      exact k_Mo_readLine_b153 C0 s0  hA hP hD hS hf _ (lv_sub hl [0] rfl)
    · have hf := zif_f hb_2 hf
      refine lv_aload_n hx hb dX11_readLine_148 rfl (lv_at hl 0 rfl) ?_
      refine lv_iconst (v := 2) hx hb dX11_readLine_149 (by decide) ?_
      obtain ⟨z3, hc4, hf⟩ := zbd_some hf
      refine zwv (wr := [(a0 0, .inl (cy 0, 1500, .inl (zA s0 0))), (a0 10, .inl (cy 1, 48, .inr (.inl (zB s0 10)))), (a0 11, .inl (cy 0, 11, .inl (zA s0 11))), (a0 12, .inl (cy 0, 11, .inl (zA s0 12))), (a0 13, .inl (cy 0, 11, .inl (zA s0 13))), (a0 14, .inl (cy 0, 4, .inl (zA s0 14))), (a0 15, .inl (cy 0, 11, .inl (zA s0 15)))]) (ws' := (wd_Mo_readLine cy o0 a0 (zI z3) (zL z3) (zA s0 0) (zB s0 10) (zA s0 11) (zA s0 12) (zA s0 13) (zA s0 14) (zA s0 15))) (zV (As := [.int 2]) hx hb hml hown hT hl.1 (c_Mo_wrong o0 a0 s0 2 hc4) zY_Mo_wrong tb_1259 (zpRw hK hP hD [0] (by decide) rfl 0 11 rfl rfl rfl rfl) rm_ok_Mo_readLine_Mo_wrong rfl rfl (Nat.le_of_ble_eq_true rfl) dX11_readLine_150 ⟨Nat.zero_le _, Nat.zero_le _⟩) hP hD hS hA [0] [1, 2, 3, 4, 5, 6, 7] [7, 0, 1, 2, 3, 4, 5, 6] rfl rfl (by decide) (by decide) (by decide) rfl rfl (fun H locs hP hD hS => ?_)
      exact k_Mo_readLine_b153 C0 (zmg [0,10,11,12,13,14,15] z3 s0)  hA hP hD hS hf _ (lv_sub hl [0] rfl)
set_option maxHeartbeats 4000000 in
set_option maxRecDepth 100000 in
theorem k_Mo_readLine_b127 {p : Program} {l : Launch} {e : Env} {s : State} {m : MethodId} {args : Array Value} {below : List Frame} {meth : Method} {c : Code} {dC : Nat → ClassId} {dI : Nat → Nat → Nat} {cy : Nat → ClassId} {A : Nat → Prop} {o0 : Nat} {a0 : Nat → Nat} {N : Nat} {y : zSt} (C0 : zCx p s m args meth c cX11_readLine 1 none RX11 (dC, dI) cy) (s0 : zSt) (hA : ∀ q, s.heap.size ≤ q → A q) {H : Heap} {locs : List Loc} (hP : va_P (dC, dI) vwCl (wd_Mo_readLine cy o0 a0 (zI s0) (zL s0) (zA s0 0) (zB s0 10) (zA s0 11) (zA s0 12) (zA s0 13) (zA s0 14) (zA s0 15)) H) (hD : va_D A (wd_Mo_readLine cy o0 a0 (zI s0) (zL s0) (zA s0 0) (zB s0 10) (zA s0 11) (zA s0 12) (zA s0 13) (zA s0 14) (zA s0 15))) (hS : va_S A s.heap H locs) (hf : Mo_readLine_b127 N s0 = some y) (ls : Array Slot) (hl : lv_has ls 1 [(0, .ref o0)]) : W p l e rm_Mo_readLine s m args below meth c H locs 0 0 (MQ below (zQv (dC, dI) cy (wd_Mo_readLine cy o0 a0 (zI y) (zL y) (zA y 0) (zB y 10) (zA y 11) (zA y 12) (zA y 13) (zA y 14) (zA y 15)) A) args s 0 0 A) (F0 m 127 ls []) := by
  obtain ⟨hx, hb, hr, hml, hown, hT, hk, hK⟩ := id C0
  refine lv_aload_n hx hb dX11_readLine_127 rfl (lv_at hl 0 rfl) ?_
  refine lv_iconst (v := 2) hx hb dX11_readLine_128 (by decide) ?_
  obtain ⟨z1, hc2, hf⟩ := zbd_some hf
  refine zwv (wr := [(a0 0, .inl (cy 0, 1500, .inl (zA s0 0))), (a0 10, .inl (cy 1, 48, .inr (.inl (zB s0 10)))), (a0 11, .inl (cy 0, 11, .inl (zA s0 11))), (a0 12, .inl (cy 0, 11, .inl (zA s0 12))), (a0 13, .inl (cy 0, 11, .inl (zA s0 13))), (a0 14, .inl (cy 0, 4, .inl (zA s0 14))), (a0 15, .inl (cy 0, 11, .inl (zA s0 15)))]) (ws' := (wd_Mo_readLine cy o0 a0 (zI z1) (zL z1) (zA s0 0) (zB s0 10) (zA s0 11) (zA s0 12) (zA s0 13) (zA s0 14) (zA s0 15))) (zV (As := [.int 2]) hx hb hml hown hT hl.1 (c_Mo_wrong o0 a0 s0 2 hc2) zY_Mo_wrong tb_1259 (zpRw hK hP hD [0] (by decide) rfl 0 11 rfl rfl rfl rfl) rm_ok_Mo_readLine_Mo_wrong rfl rfl (Nat.le_of_ble_eq_true rfl) dX11_readLine_129 ⟨Nat.zero_le _, Nat.zero_le _⟩) hP hD hS hA [0] [1, 2, 3, 4, 5, 6, 7] [7, 0, 1, 2, 3, 4, 5, 6] rfl rfl (by decide) (by decide) (by decide) rfl rfl (fun H locs hP hD hS => ?_)
  exact k_Mo_readLine_b132 C0 (zmg [0,10,11,12,13,14,15] z1 s0)  hA hP hD hS hf _ (lv_sub hl [0] rfl)
set_option maxHeartbeats 4000000 in
set_option maxRecDepth 100000 in
theorem k_Mo_readLine_b101 {p : Program} {l : Launch} {e : Env} {s : State} {m : MethodId} {args : Array Value} {below : List Frame} {meth : Method} {c : Code} {dC : Nat → ClassId} {dI : Nat → Nat → Nat} {cy : Nat → ClassId} {A : Nat → Prop} {o0 : Nat} {a0 : Nat → Nat} {N : Nat} {y : zSt} (C0 : zCx p s m args meth c cX11_readLine 1 none RX11 (dC, dI) cy) (s0 : zSt) (hA : ∀ q, s.heap.size ≤ q → A q) {H : Heap} {locs : List Loc} (hP : va_P (dC, dI) vwCl (wd_Mo_readLine cy o0 a0 (zI s0) (zL s0) (zA s0 0) (zB s0 10) (zA s0 11) (zA s0 12) (zA s0 13) (zA s0 14) (zA s0 15)) H) (hD : va_D A (wd_Mo_readLine cy o0 a0 (zI s0) (zL s0) (zA s0 0) (zB s0 10) (zA s0 11) (zA s0 12) (zA s0 13) (zA s0 14) (zA s0 15))) (hS : va_S A s.heap H locs) (hf : Mo_readLine_b101 N s0 = some y) (ls : Array Slot) (hl : lv_has ls 1 [(0, .ref o0)]) : W p l e rm_Mo_readLine s m args below meth c H locs 0 0 (MQ below (zQv (dC, dI) cy (wd_Mo_readLine cy o0 a0 (zI y) (zL y) (zA y 0) (zB y 10) (zA y 11) (zA y 12) (zA y 13) (zA y 14) (zA y 15)) A) args s 0 0 A) (F0 m 101 ls []) := by
  obtain ⟨hx, hb, hr, hml, hown, hT, hk, hK⟩ := id C0
  refine lv_aload_n hx hb dX11_readLine_101 rfl (lv_at hl 0 rfl) ?_
  refine lv_ldc2 (v := 108187867505765) hx hb hown (hT _ tb_1258) dX11_readLine_102 ?_
  obtain ⟨z1, hc2, hf⟩ := zbd_some hf
  refine zri (zV (As := [.long 108187867505765]) hx hb hml hown hT hl.1 (c_Mo_isWord o0 a0 s0 108187867505765 hc2) zY_Mo_isWord tb_1235 (zpR hK hP [0] rfl 0 11 rfl rfl rfl) rm_ok_Mo_readLine_Mo_isWord rfl rfl (Nat.le_of_ble_eq_true rfl) dX11_readLine_105 ⟨Nat.zero_le _, Nat.zero_le _⟩) ?_
  refine lv_if_eq (tgt := 127) hx hb dX11_readLine_108 (by decide) (fun hb_3 => ?_) (fun hb_3 => ?_)
  · have hf := zif_t hb_3 hf
    exact k_Mo_readLine_b127 C0 s0  hA hP hD hS hf _ (lv_sub hl [0] rfl)
  · have hf := zif_f hb_3 hf
    refine lv_aload_n hx hb dX11_readLine_111 rfl (lv_at hl 0 rfl) ?_
    refine zget (v := .int (zI s0 27)) hx hb hown hT hK hP inX11 rfl smX11 0 rfl 27 (by decide) tb_1029 rfl dX11_readLine_112 ?_
    refine lv_bipush (v := 20) hx hb dX11_readLine_115 (by decide) ?_
    refine lv_icmp_ge (tgt := 127) hx hb dX11_readLine_117 (by decide) (fun hb_4 => ?_) (fun hb_4 => ?_)
    · have hf := zif_t hb_4 hf
      exact k_Mo_readLine_b127 C0 s0  hA hP hD hS hf _ (lv_sub hl [0] rfl)
    · have hf := zif_f hb_4 hf
      refine lv_aload_n hx hb dX11_readLine_120 rfl (lv_at hl 0 rfl) ?_
      obtain ⟨z5, hc6, hf⟩ := zbd_some hf
      refine zwv (wr := [(a0 11, .inl (cy 0, 11, .inl (zA s0 11))), (a0 12, .inl (cy 0, 11, .inl (zA s0 12))), (a0 14, .inl (cy 0, 4, .inl (zA s0 14)))]) (ws' := (wd_Mo_readLine cy o0 a0 (zI z5) (zL z5) (zA z5 0) (zB z5 10) (zA s0 11) (zA s0 12) (zA z5 13) (zA s0 14) (zA z5 15))) (zV (As := []) hx hb hml hown hT hl.1 (c_Mo_readBeside o0 a0 s0 hc6) zY_Mo_readBeside tb_1295 (zpRw hK hP hD [0, 1, 2, 5, 7] (by decide) rfl 0 11 rfl rfl rfl rfl) rm_ok_Mo_readLine_Mo_readBeside rfl rfl (Nat.le_of_ble_eq_true rfl) dX11_readLine_121 ⟨Nat.zero_le _, Nat.zero_le _⟩) hP hD hS hA [0, 1, 2, 5, 7] [3, 4, 6] [3, 4, 5, 0, 1, 6, 2, 7] rfl rfl (by decide) (by decide) (by decide) rfl rfl (fun H locs hP hD hS => ?_)
      refine lv_goto (tgt := 132) hx hb dX11_readLine_124 (by decide) ?_
      exact k_Mo_readLine_b132 C0 (zmg [11,12,14] z5 s0)  hA hP hD hS hf _ (lv_sub hl [0] rfl)
set_option maxHeartbeats 4000000 in
set_option maxRecDepth 100000 in
theorem k_Mo_readLine_b76 {p : Program} {l : Launch} {e : Env} {s : State} {m : MethodId} {args : Array Value} {below : List Frame} {meth : Method} {c : Code} {dC : Nat → ClassId} {dI : Nat → Nat → Nat} {cy : Nat → ClassId} {A : Nat → Prop} {o0 : Nat} {a0 : Nat → Nat} {N : Nat} {y : zSt} (C0 : zCx p s m args meth c cX11_readLine 1 none RX11 (dC, dI) cy) (s0 : zSt) (hA : ∀ q, s.heap.size ≤ q → A q) {H : Heap} {locs : List Loc} (hP : va_P (dC, dI) vwCl (wd_Mo_readLine cy o0 a0 (zI s0) (zL s0) (zA s0 0) (zB s0 10) (zA s0 11) (zA s0 12) (zA s0 13) (zA s0 14) (zA s0 15)) H) (hD : va_D A (wd_Mo_readLine cy o0 a0 (zI s0) (zL s0) (zA s0 0) (zB s0 10) (zA s0 11) (zA s0 12) (zA s0 13) (zA s0 14) (zA s0 15))) (hS : va_S A s.heap H locs) (hf : Mo_readLine_b76 N s0 = some y) (ls : Array Slot) (hl : lv_has ls 1 [(0, .ref o0)]) : W p l e rm_Mo_readLine s m args below meth c H locs 0 0 (MQ below (zQv (dC, dI) cy (wd_Mo_readLine cy o0 a0 (zI y) (zL y) (zA y 0) (zB y 10) (zA y 11) (zA y 12) (zA y 13) (zA y 14) (zA y 15)) A) args s 0 0 A) (F0 m 76 ls []) := by
  obtain ⟨hx, hb, hr, hml, hown, hT, hk, hK⟩ := id C0
  refine lv_aload_n hx hb dX11_readLine_76 rfl (lv_at hl 0 rfl) ?_
  refine lv_ldc2 (v := 6644082) hx hb hown (hT _ tb_1256) dX11_readLine_77 ?_
  obtain ⟨z1, hc2, hf⟩ := zbd_some hf
  refine zri (zV (As := [.long 6644082]) hx hb hml hown hT hl.1 (c_Mo_isWord o0 a0 s0 6644082 hc2) zY_Mo_isWord tb_1235 (zpR hK hP [0] rfl 0 11 rfl rfl rfl) rm_ok_Mo_readLine_Mo_isWord rfl rfl (Nat.le_of_ble_eq_true rfl) dX11_readLine_80 ⟨Nat.zero_le _, Nat.zero_le _⟩) ?_
  refine lv_if_eq (tgt := 101) hx hb dX11_readLine_83 (by decide) (fun hb_3 => ?_) (fun hb_3 => ?_)
  · have hf := zif_t hb_3 hf
    exact k_Mo_readLine_b101 C0 s0  hA hP hD hS hf _ (lv_sub hl [0] rfl)
  · have hf := zif_f hb_3 hf
    refine lv_aload_n hx hb dX11_readLine_86 rfl (lv_at hl 0 rfl) ?_
    refine zget (v := .int (zI s0 26)) hx hb hown hT hK hP inX11 rfl smX11 0 rfl 26 (by decide) tb_1028 rfl dX11_readLine_87 ?_
    refine lv_iconst (v := 4) hx hb dX11_readLine_90 (by decide) ?_
    refine lv_icmp_ge (tgt := 101) hx hb dX11_readLine_91 (by decide) (fun hb_4 => ?_) (fun hb_4 => ?_)
    · have hf := zif_t hb_4 hf
      exact k_Mo_readLine_b101 C0 s0  hA hP hD hS hf _ (lv_sub hl [0] rfl)
    · have hf := zif_f hb_4 hf
      refine lv_aload_n hx hb dX11_readLine_94 rfl (lv_at hl 0 rfl) ?_
      obtain ⟨z5, hc6, hf⟩ := zbd_some hf
      refine zwv (wr := [(a0 11, .inl (cy 0, 11, .inl (zA s0 11))), (a0 12, .inl (cy 0, 11, .inl (zA s0 12))), (a0 13, .inl (cy 0, 11, .inl (zA s0 13))), (a0 15, .inl (cy 0, 11, .inl (zA s0 15)))]) (ws' := (wd_Mo_readLine cy o0 a0 (zI z5) (zL z5) (zA z5 0) (zB z5 10) (zA s0 11) (zA s0 12) (zA s0 13) (zA z5 14) (zA s0 15))) (zV (As := []) hx hb hml hown hT hl.1 (c_Mo_readEar o0 a0 s0 hc6) zY_Mo_readEar tb_1291 (zpRw hK hP hD [0, 1, 2, 6] (by decide) rfl 0 11 rfl rfl rfl rfl) rm_ok_Mo_readLine_Mo_readEar rfl rfl (Nat.le_of_ble_eq_true rfl) dX11_readLine_95 ⟨Nat.zero_le _, Nat.zero_le _⟩) hP hD hS hA [0, 1, 2, 6] [3, 4, 5, 7] [4, 5, 6, 0, 1, 2, 7, 3] rfl rfl (by decide) (by decide) (by decide) rfl rfl (fun H locs hP hD hS => ?_)
      refine lv_goto (tgt := 132) hx hb dX11_readLine_98 (by decide) ?_
      exact k_Mo_readLine_b132 C0 (zmg [11,12,13,15] z5 s0)  hA hP hD hS hf _ (lv_sub hl [0] rfl)
set_option maxHeartbeats 4000000 in
set_option maxRecDepth 100000 in
theorem k_Mo_readLine_b51 {p : Program} {l : Launch} {e : Env} {s : State} {m : MethodId} {args : Array Value} {below : List Frame} {meth : Method} {c : Code} {dC : Nat → ClassId} {dI : Nat → Nat → Nat} {cy : Nat → ClassId} {A : Nat → Prop} {o0 : Nat} {a0 : Nat → Nat} {N : Nat} {y : zSt} (C0 : zCx p s m args meth c cX11_readLine 1 none RX11 (dC, dI) cy) (s0 : zSt) (hA : ∀ q, s.heap.size ≤ q → A q) {H : Heap} {locs : List Loc} (hP : va_P (dC, dI) vwCl (wd_Mo_readLine cy o0 a0 (zI s0) (zL s0) (zA s0 0) (zB s0 10) (zA s0 11) (zA s0 12) (zA s0 13) (zA s0 14) (zA s0 15)) H) (hD : va_D A (wd_Mo_readLine cy o0 a0 (zI s0) (zL s0) (zA s0 0) (zB s0 10) (zA s0 11) (zA s0 12) (zA s0 13) (zA s0 14) (zA s0 15))) (hS : va_S A s.heap H locs) (hf : Mo_readLine_b51 N s0 = some y) (ls : Array Slot) (hl : lv_has ls 1 [(0, .ref o0)]) : W p l e rm_Mo_readLine s m args below meth c H locs 0 0 (MQ below (zQv (dC, dI) cy (wd_Mo_readLine cy o0 a0 (zI y) (zL y) (zA y 0) (zB y 10) (zA y 11) (zA y 12) (zA y 13) (zA y 14) (zA y 15)) A) args s 0 0 A) (F0 m 51 ls []) := by
  obtain ⟨hx, hb, hr, hml, hown, hT, hk, hK⟩ := id C0
  refine lv_aload_n hx hb dX11_readLine_51 rfl (lv_at hl 0 rfl) ?_
  refine lv_ldc2 (v := 8319400174449812850) hx hb hown (hT _ tb_1255) dX11_readLine_52 ?_
  obtain ⟨z1, hc2, hf⟩ := zbd_some hf
  refine zri (zV (As := [.long 8319400174449812850]) hx hb hml hown hT hl.1 (c_Mo_isWord o0 a0 s0 8319400174449812850 hc2) zY_Mo_isWord tb_1235 (zpR hK hP [0] rfl 0 11 rfl rfl rfl) rm_ok_Mo_readLine_Mo_isWord rfl rfl (Nat.le_of_ble_eq_true rfl) dX11_readLine_55 ⟨Nat.zero_le _, Nat.zero_le _⟩) ?_
  refine lv_if_eq (tgt := 76) hx hb dX11_readLine_58 (by decide) (fun hb_3 => ?_) (fun hb_3 => ?_)
  · have hf := zif_t hb_3 hf
    exact k_Mo_readLine_b76 C0 s0  hA hP hD hS hf _ (lv_sub hl [0] rfl)
  · have hf := zif_f hb_3 hf
    refine lv_aload_n hx hb dX11_readLine_61 rfl (lv_at hl 0 rfl) ?_
    refine zget (v := .int (zI s0 25)) hx hb hown hT hK hP inX11 rfl smX11 0 rfl 25 (by decide) tb_1027 rfl dX11_readLine_62 ?_
    refine lv_iconst (v := 2) hx hb dX11_readLine_65 (by decide) ?_
    refine lv_icmp_ge (tgt := 76) hx hb dX11_readLine_66 (by decide) (fun hb_4 => ?_) (fun hb_4 => ?_)
    · have hf := zif_t hb_4 hf
      exact k_Mo_readLine_b76 C0 s0  hA hP hD hS hf _ (lv_sub hl [0] rfl)
    · have hf := zif_f hb_4 hf
      refine lv_aload_n hx hb dX11_readLine_69 rfl (lv_at hl 0 rfl) ?_
      obtain ⟨z5, hc6, hf⟩ := zbd_some hf
      refine zwv (wr := [(a0 14, .inl (cy 0, 4, .inl (zA s0 14)))]) (ws' := (wd_Mo_readLine cy o0 a0 (zI z5) (zL z5) (zA z5 0) (zB z5 10) (zA z5 11) (zA z5 12) (zA z5 13) (zA s0 14) (zA z5 15))) (zV (As := []) hx hb hml hown hT hl.1 (c_Mo_readStranger o0 a0 s0 hc6) zY_Mo_readStranger tb_1287 (zpRw hK hP hD [0, 1, 2, 3, 4, 5, 7] (by decide) rfl 0 11 rfl rfl rfl rfl) rm_ok_Mo_readLine_Mo_readStranger rfl rfl (Nat.le_of_ble_eq_true rfl) dX11_readLine_70 ⟨Nat.zero_le _, Nat.zero_le _⟩) hP hD hS hA [0, 1, 2, 3, 4, 5, 7] [6] [1, 2, 3, 4, 5, 6, 0, 7] rfl rfl (by decide) (by decide) (by decide) rfl rfl (fun H locs hP hD hS => ?_)
      refine lv_goto (tgt := 132) hx hb dX11_readLine_73 (by decide) ?_
      exact k_Mo_readLine_b132 C0 (zmg [14] z5 s0)  hA hP hD hS hf _ (lv_sub hl [0] rfl)
set_option maxHeartbeats 4000000 in
set_option maxRecDepth 100000 in
theorem k_Mo_readLine_b25 {p : Program} {l : Launch} {e : Env} {s : State} {m : MethodId} {args : Array Value} {below : List Frame} {meth : Method} {c : Code} {dC : Nat → ClassId} {dI : Nat → Nat → Nat} {cy : Nat → ClassId} {A : Nat → Prop} {o0 : Nat} {a0 : Nat → Nat} {N : Nat} {y : zSt} (C0 : zCx p s m args meth c cX11_readLine 1 none RX11 (dC, dI) cy) (s0 : zSt) (hA : ∀ q, s.heap.size ≤ q → A q) {H : Heap} {locs : List Loc} (hP : va_P (dC, dI) vwCl (wd_Mo_readLine cy o0 a0 (zI s0) (zL s0) (zA s0 0) (zB s0 10) (zA s0 11) (zA s0 12) (zA s0 13) (zA s0 14) (zA s0 15)) H) (hD : va_D A (wd_Mo_readLine cy o0 a0 (zI s0) (zL s0) (zA s0 0) (zB s0 10) (zA s0 11) (zA s0 12) (zA s0 13) (zA s0 14) (zA s0 15))) (hS : va_S A s.heap H locs) (hf : Mo_readLine_b25 N s0 = some y) (ls : Array Slot) (hl : lv_has ls 1 [(0, .ref o0)]) : W p l e rm_Mo_readLine s m args below meth c H locs 0 0 (MQ below (zQv (dC, dI) cy (wd_Mo_readLine cy o0 a0 (zI y) (zL y) (zA y 0) (zB y 10) (zA y 11) (zA y 12) (zA y 13) (zA y 14) (zA y 15)) A) args s 0 0 A) (F0 m 25 ls []) := by
  obtain ⟨hx, hb, hr, hml, hown, hT, hk, hK⟩ := id C0
  refine lv_aload_n hx hb dX11_readLine_25 rfl (lv_at hl 0 rfl) ?_
  refine lv_ldc2 (v := 422607680372) hx hb hown (hT _ tb_1251) dX11_readLine_26 ?_
  obtain ⟨z1, hc2, hf⟩ := zbd_some hf
  refine zri (zV (As := [.long 422607680372]) hx hb hml hown hT hl.1 (c_Mo_isWord o0 a0 s0 422607680372 hc2) zY_Mo_isWord tb_1235 (zpR hK hP [0] rfl 0 11 rfl rfl rfl) rm_ok_Mo_readLine_Mo_isWord rfl rfl (Nat.le_of_ble_eq_true rfl) dX11_readLine_29 ⟨Nat.zero_le _, Nat.zero_le _⟩) ?_
  refine lv_if_eq (tgt := 51) hx hb dX11_readLine_32 (by decide) (fun hb_3 => ?_) (fun hb_3 => ?_)
  · have hf := zif_t hb_3 hf
    exact k_Mo_readLine_b51 C0 s0  hA hP hD hS hf _ (lv_sub hl [0] rfl)
  · have hf := zif_f hb_3 hf
    refine lv_aload_n hx hb dX11_readLine_35 rfl (lv_at hl 0 rfl) ?_
    refine zget (v := .int (zI s0 24)) hx hb hown hT hK hP inX11 rfl smX11 0 rfl 24 (by decide) tb_1026 rfl dX11_readLine_36 ?_
    refine lv_bipush (v := 9) hx hb dX11_readLine_39 (by decide) ?_
    refine lv_icmp_ge (tgt := 51) hx hb dX11_readLine_41 (by decide) (fun hb_4 => ?_) (fun hb_4 => ?_)
    · have hf := zif_t hb_4 hf
      exact k_Mo_readLine_b51 C0 s0  hA hP hD hS hf _ (lv_sub hl [0] rfl)
    · have hf := zif_f hb_4 hf
      refine lv_aload_n hx hb dX11_readLine_44 rfl (lv_at hl 0 rfl) ?_
      obtain ⟨z5, hc6, hf⟩ := zbd_some hf
      refine zwv (wr := [(a0 14, .inl (cy 0, 4, .inl (zA s0 14)))]) (ws' := (wd_Mo_readLine cy o0 a0 (zI z5) (zL z5) (zA z5 0) (zB z5 10) (zA z5 11) (zA z5 12) (zA z5 13) (zA s0 14) (zA z5 15))) (zV (As := []) hx hb hml hown hT hl.1 (c_Mo_readBeast o0 a0 s0 hc6) zY_Mo_readBeast tb_1267 (zpRw hK hP hD [0, 1, 2, 3, 4, 5, 7] (by decide) rfl 0 11 rfl rfl rfl rfl) rm_ok_Mo_readLine_Mo_readBeast rfl rfl (Nat.le_of_ble_eq_true rfl) dX11_readLine_45 ⟨Nat.zero_le _, Nat.zero_le _⟩) hP hD hS hA [0, 1, 2, 3, 4, 5, 7] [6] [1, 2, 3, 4, 5, 6, 0, 7] rfl rfl (by decide) (by decide) (by decide) rfl rfl (fun H locs hP hD hS => ?_)
      refine lv_goto (tgt := 132) hx hb dX11_readLine_48 (by decide) ?_
      exact k_Mo_readLine_b132 C0 (zmg [14] z5 s0)  hA hP hD hS hf _ (lv_sub hl [0] rfl)
set_option maxHeartbeats 4000000 in
set_option maxRecDepth 100000 in
theorem k_Mo_readLine_b0 {p : Program} {l : Launch} {e : Env} {s : State} {m : MethodId} {args : Array Value} {below : List Frame} {meth : Method} {c : Code} {dC : Nat → ClassId} {dI : Nat → Nat → Nat} {cy : Nat → ClassId} {A : Nat → Prop} {o0 : Nat} {a0 : Nat → Nat} {N : Nat} {y : zSt} (C0 : zCx p s m args meth c cX11_readLine 1 none RX11 (dC, dI) cy) (s0 : zSt) (hA : ∀ q, s.heap.size ≤ q → A q) {H : Heap} {locs : List Loc} (hP : va_P (dC, dI) vwCl (wd_Mo_readLine cy o0 a0 (zI s0) (zL s0) (zA s0 0) (zB s0 10) (zA s0 11) (zA s0 12) (zA s0 13) (zA s0 14) (zA s0 15)) H) (hD : va_D A (wd_Mo_readLine cy o0 a0 (zI s0) (zL s0) (zA s0 0) (zB s0 10) (zA s0 11) (zA s0 12) (zA s0 13) (zA s0 14) (zA s0 15))) (hS : va_S A s.heap H locs) (hf : Mo_readLine_b0 N s0 = some y) (ls : Array Slot) (hl : lv_has ls 1 [(0, .ref o0)]) : W p l e rm_Mo_readLine s m args below meth c H locs 0 0 (MQ below (zQv (dC, dI) cy (wd_Mo_readLine cy o0 a0 (zI y) (zL y) (zA y 0) (zB y 10) (zA y 11) (zA y 12) (zA y 13) (zA y 14) (zA y 15)) A) args s 0 0 A) (F0 m 0 ls []) := by
  obtain ⟨hx, hb, hr, hml, hown, hT, hk, hK⟩ := id C0
  refine lv_aload_n hx hb dX11_readLine_0 rfl (lv_at hl 0 rfl) ?_
  refine lv_ldc2 (v := 1751478884) hx hb hown (hT _ tb_1234) dX11_readLine_1 ?_
  obtain ⟨z1, hc2, hf⟩ := zbd_some hf
  refine zri (zV (As := [.long 1751478884]) hx hb hml hown hT hl.1 (c_Mo_isWord o0 a0 s0 1751478884 hc2) zY_Mo_isWord tb_1235 (zpR hK hP [0] rfl 0 11 rfl rfl rfl) rm_ok_Mo_readLine_Mo_isWord rfl rfl (Nat.le_of_ble_eq_true rfl) dX11_readLine_4 ⟨Nat.zero_le _, Nat.zero_le _⟩) ?_
  refine lv_if_eq (tgt := 25) hx hb dX11_readLine_7 (by decide) (fun hb_3 => ?_) (fun hb_3 => ?_)
  · have hf := zif_t hb_3 hf
    exact k_Mo_readLine_b25 C0 s0  hA hP hD hS hf _ (lv_sub hl [0] rfl)
  · have hf := zif_f hb_3 hf
    refine lv_aload_n hx hb dX11_readLine_10 rfl (lv_at hl 0 rfl) ?_
    refine zget (v := .int (zI s0 22)) hx hb hown hT hK hP inX11 rfl smX11 0 rfl 22 (by decide) tb_1024 rfl dX11_readLine_11 ?_
    refine lv_iconst (v := 3) hx hb dX11_readLine_14 (by decide) ?_
    refine lv_icmp_ge (tgt := 25) hx hb dX11_readLine_15 (by decide) (fun hb_4 => ?_) (fun hb_4 => ?_)
    · have hf := zif_t hb_4 hf
      exact k_Mo_readLine_b25 C0 s0  hA hP hD hS hf _ (lv_sub hl [0] rfl)
    · have hf := zif_f hb_4 hf
      refine lv_aload_n hx hb dX11_readLine_18 rfl (lv_at hl 0 rfl) ?_
      obtain ⟨z5, hc6, hf⟩ := zbd_some hf
      refine zwv (wr := [(a0 11, .inl (cy 0, 11, .inl (zA s0 11))), (a0 12, .inl (cy 0, 11, .inl (zA s0 12))), (a0 13, .inl (cy 0, 11, .inl (zA s0 13))), (a0 14, .inl (cy 0, 4, .inl (zA s0 14))), (a0 15, .inl (cy 0, 11, .inl (zA s0 15)))]) (ws' := (wd_Mo_readLine cy o0 a0 (zI z5) (zL z5) (zA z5 0) (zB z5 10) (zA s0 11) (zA s0 12) (zA s0 13) (zA s0 14) (zA s0 15))) (zV (As := []) hx hb hml hown hT hl.1 (c_Mo_readHerd o0 a0 s0 hc6) zY_Mo_readHerd tb_1239 (zpRw hK hP hD [0, 1, 2] (by decide) rfl 0 11 rfl rfl rfl rfl) rm_ok_Mo_readLine_Mo_readHerd rfl rfl (Nat.le_of_ble_eq_true rfl) dX11_readLine_19 ⟨Nat.zero_le _, Nat.zero_le _⟩) hP hD hS hA [0, 1, 2] [3, 4, 5, 6, 7] [5, 6, 7, 0, 1, 2, 3, 4] rfl rfl (by decide) (by decide) (by decide) rfl rfl (fun H locs hP hD hS => ?_)
      refine lv_goto (tgt := 132) hx hb dX11_readLine_22 (by decide) ?_
      exact k_Mo_readLine_b132 C0 (zmg [11,12,13,14,15] z5 s0)  hA hP hD hS hf _ (lv_sub hl [0] rfl)
set_option maxHeartbeats 4000000 in
set_option maxRecDepth 100000 in
theorem c_Mo_readLine {l : Launch} {dC : Nat → ClassId} {dI : Nat → Nat → Nat} {cy : Nat → ClassId} {sz : Nat} {N : Nat} (o0 : Nat) (a0 : Nat → Nat) (s0 : zSt) {y : zSt} (hf : Mo_readLine N s0 = some y) : Met l yX11_readLine (.code yX11_readLine cX11_readLine 1 none :: zt) rm_Mo_readLine (va_Pc [.ref o0] (zPre (dC, dI) cy (wd_Mo_readLine cy o0 a0 (zI s0) (zL s0) (zA s0 0) (zB s0 10) (zA s0 11) (zA s0 12) (zA s0 13) (zA s0 14) (zA s0 15)) sz)) (zQv (dC, dI) cy (wd_Mo_readLine cy o0 a0 (zI y) (zL y) (zA y 0) (zB y 10) (zA y 11) (zA y 12) (zA y 13) (zA y 14) (zA y 15)) (va_A (wd_Mo_readLine cy o0 a0 (zI s0) (zL s0) (zA s0 0) (zB s0 10) (zA s0 11) (zA s0 12) (zA s0 13) (zA s0 14) (zA s0 15)) sz)) 0 0 (va_A (wd_Mo_readLine cy o0 a0 (zI s0) (zL s0) (zA s0 0) (zB s0 10) (zA s0 11) (zA s0 12) (zA s0 13) (zA s0 14) (zA s0 15)) sz) :=
  zentW (Qw := fun A => (zQv (dC, dI) cy (wd_Mo_readLine cy o0 a0 (zI y) (zL y) (zA y 0) (zB y 10) (zA y 11) (zA y 12) (zA y 13) (zA y 14) (zA y 15)) A)) (by decide +kernel) (Nat.le_of_ble_eq_true rfl) (fun p e s m below meth c A C0 hA hP hD hS ls hl => k_Mo_readLine_b0 C0 s0 hA hP hD hS hf ls hl)
def wd_Mo_readAll (cy : Nat → ClassId) (o0 : Nat) (a0 : Nat → Nat) (g0 : Nat → Int32) (h0 : Nat → Int64) (x0_0 : Nat → Int32) (x0_10 : Nat → Int64) (x0_11 : Nat → Int32) (x0_12 : Nat → Int32) (x0_13 : Nat → Int32) (x0_14 : Nat → Int32) (x0_15 : Nat → Int32) : va_W := [(o0, .inr (11, fs_Mo a0 g0 h0)), (a0 0, .inl (cy 0, 1500, .inl x0_0)), (a0 10, .inl (cy 1, 48, .inr (.inl x0_10))), (a0 11, .inl (cy 0, 11, .inl x0_11)), (a0 12, .inl (cy 0, 11, .inl x0_12)), (a0 13, .inl (cy 0, 11, .inl x0_13)), (a0 14, .inl (cy 0, 4, .inl x0_14)), (a0 15, .inl (cy 0, 11, .inl x0_15))]
def rm_Mo_readAll : Room := { frames := 8, cells := 0, slots := 0, locals := 192 }
theorem rm_ok_Mo_readAll_Mo_readLine : rm_Mo_readLine.cells = 0 ∧ rm_Mo_readLine.slots = 0 ∧ rm_Mo_readLine.frames + 1 ≤ rm_Mo_readAll.frames ∧ 8 + (1 + 11) + rm_Mo_readLine.locals ≤ rm_Mo_readAll.locals := by decide
theorem rm_ok_Mo_readAll_Mo_token : rm_Mo_token.cells = 0 ∧ rm_Mo_token.slots = 0 ∧ rm_Mo_token.frames + 1 ≤ rm_Mo_readAll.frames ∧ 8 + (3 + 11) + rm_Mo_token.locals ≤ rm_Mo_readAll.locals := by decide
set_option maxHeartbeats 4000000 in
set_option maxRecDepth 100000 in
theorem k_Mo_readAll_b62 {p : Program} {l : Launch} {e : Env} {s : State} {m : MethodId} {args : Array Value} {below : List Frame} {meth : Method} {c : Code} {dC : Nat → ClassId} {dI : Nat → Nat → Nat} {cy : Nat → ClassId} {A : Nat → Prop} {o0 : Nat} {a0 : Nat → Nat} {N : Nat} {kh62 : zSt → Option (zSt)} {y : zSt} (C0 : zCx p s m args meth c cX11_readAll 1 none RX11 (dC, dI) cy) (s0 : zSt) (hk62 : ∀ (s0 : zSt) {H : Heap} {locs : List Loc} (_ : va_P (dC, dI) vwCl (wd_Mo_readAll cy o0 a0 (zI s0) (zL s0) (zA s0 0) (zB s0 10) (zA s0 11) (zA s0 12) (zA s0 13) (zA s0 14) (zA s0 15)) H) (_ : va_D A (wd_Mo_readAll cy o0 a0 (zI s0) (zL s0) (zA s0 0) (zB s0 10) (zA s0 11) (zA s0 12) (zA s0 13) (zA s0 14) (zA s0 15))) (_ : va_S A s.heap H locs) (_ : kh62 s0 = some y) (ls : Array Slot) (_ : lv_has ls 1 [(0, .ref o0)]), W p l e rm_Mo_readAll s m args below meth c H locs 0 0 (MQ below (zQv (dC, dI) cy (wd_Mo_readAll cy o0 a0 (zI y) (zL y) (zA y 0) (zB y 10) (zA y 11) (zA y 12) (zA y 13) (zA y 14) (zA y 15)) A) args s 0 0 A) (F0 m 62 ls [])) (hA : ∀ q, s.heap.size ≤ q → A q) {H : Heap} {locs : List Loc} (hP : va_P (dC, dI) vwCl (wd_Mo_readAll cy o0 a0 (zI s0) (zL s0) (zA s0 0) (zB s0 10) (zA s0 11) (zA s0 12) (zA s0 13) (zA s0 14) (zA s0 15)) H) (hD : va_D A (wd_Mo_readAll cy o0 a0 (zI s0) (zL s0) (zA s0 0) (zB s0 10) (zA s0 11) (zA s0 12) (zA s0 13) (zA s0 14) (zA s0 15))) (hS : va_S A s.heap H locs) (hf : Mo_readAll_b62 N kh62 s0 = some y) (ls : Array Slot) (hl : lv_has ls 1 [(0, .ref o0)]) : W p l e rm_Mo_readAll s m args below meth c H locs 0 0 (MQ below (zQv (dC, dI) cy (wd_Mo_readAll cy o0 a0 (zI y) (zL y) (zA y 0) (zB y 10) (zA y 11) (zA y 12) (zA y 13) (zA y 14) (zA y 15)) A) args s 0 0 A) (F0 m 62 ls []) := by
  obtain ⟨hx, hb, hr, hml, hown, hT, hk, hK⟩ := id C0
  refine lv_aload_n hx hb dX11_readAll_62 rfl (lv_at hl 0 rfl) ?_
  refine zget (v := .int (zI s0 2)) hx hb hown hT hK hP inX11 rfl smX11 0 rfl 2 (by decide) tb_1004 rfl dX11_readAll_63 ?_
  refine lv_if_ne (tgt := 83) hx hb dX11_readAll_66 (by decide) (fun hb_1 => ?_) (fun hb_1 => ?_)
  · have hf := zif_f hb_1 hf
    cases hf
    exact zewv hx hb hr hk hK hP hD hS dX11_readAll_83
  · have hf := zif_t hb_1 hf
    refine lv_aload_n hx hb dX11_readAll_69 rfl (lv_at hl 0 rfl) ?_
    refine zget (v := .int (zI s0 6)) hx hb hown hT hK hP inX11 rfl smX11 0 rfl 6 (by decide) tb_1008 rfl dX11_readAll_70 ?_
    refine lv_if_eq (tgt := 83) hx hb dX11_readAll_73 (by decide) (fun hb_2 => ?_) (fun hb_2 => ?_)
    · have hf := zif_t hb_2 hf
      cases hf
      exact zewv hx hb hr hk hK hP hD hS dX11_readAll_83
    · have hf := zif_f hb_2 hf
      refine lv_aload_n hx hb dX11_readAll_76 rfl (lv_at hl 0 rfl) ?_
      obtain ⟨z3, hc4, hf⟩ := zbd_some hf
      refine zwv (wr := []) (ws' := (wd_Mo_readAll cy o0 a0 (zI z3) (zL z3) (zA z3 0) (zB z3 10) (zA z3 11) (zA z3 12) (zA z3 13) (zA z3 14) (zA z3 15))) (zV (As := []) hx hb hml hown hT hl.1 (c_Mo_readLine o0 a0 s0 hc4) zY_Mo_readLine tb_1230 (zpRw hK hP hD [0, 1, 2, 3, 4, 5, 6, 7] (by decide) rfl 0 11 rfl rfl rfl rfl) rm_ok_Mo_readAll_Mo_readLine rfl rfl (Nat.le_of_ble_eq_true rfl) dX11_readAll_77 ⟨Nat.zero_le _, Nat.zero_le _⟩) hP hD hS hA [0, 1, 2, 3, 4, 5, 6, 7] [] [0, 1, 2, 3, 4, 5, 6, 7] rfl rfl (by decide) (by decide) (by decide) rfl rfl (fun H locs hP hD hS => ?_)
      refine lv_goto (tgt := 62) hx hb dX11_readAll_80 (by decide) ?_
      exact hk62 z3 hP hD hS hf _ (lv_sub hl [0] rfl)
set_option maxHeartbeats 4000000 in
set_option maxRecDepth 100000 in
theorem k_Mo_readAll_h62 {p : Program} {l : Launch} {e : Env} {s : State} {m : MethodId} {args : Array Value} {below : List Frame} {meth : Method} {c : Code} {dC : Nat → ClassId} {dI : Nat → Nat → Nat} {cy : Nat → ClassId} {A : Nat → Prop} {o0 : Nat} {a0 : Nat → Nat} {N : Nat} {y : zSt} (C0 : zCx p s m args meth c cX11_readAll 1 none RX11 (dC, dI) cy) (hA : ∀ q, s.heap.size ≤ q → A q) : ∀ (n : Nat) (s0 : zSt) {H : Heap} {locs : List Loc} (hP : va_P (dC, dI) vwCl (wd_Mo_readAll cy o0 a0 (zI s0) (zL s0) (zA s0 0) (zB s0 10) (zA s0 11) (zA s0 12) (zA s0 13) (zA s0 14) (zA s0 15)) H) (hD : va_D A (wd_Mo_readAll cy o0 a0 (zI s0) (zL s0) (zA s0 0) (zB s0 10) (zA s0 11) (zA s0 12) (zA s0 13) (zA s0 14) (zA s0 15))) (hS : va_S A s.heap H locs) (hf : Mo_readAll_h62 N n s0 = some y) (ls : Array Slot) (hl : lv_has ls 1 [(0, .ref o0)]), W p l e rm_Mo_readAll s m args below meth c H locs 0 0 (MQ below (zQv (dC, dI) cy (wd_Mo_readAll cy o0 a0 (zI y) (zL y) (zA y 0) (zB y 10) (zA y 11) (zA y 12) (zA y 13) (zA y 14) (zA y 15)) A) args s 0 0 A) (F0 m 62 ls []) := by
  intro n
  induction n with
  | zero => intro s0 H locs hP hD hS hf; cases hf
  | succ n ih =>
    intro s0 H locs hP hD hS hf ls hl
    have hf : Mo_readAll_b62 N (Mo_readAll_h62 N n) s0 = some y := hf
    exact k_Mo_readAll_b62 C0 s0 (fun s0 _ _ hP hD hS hf ls hl => ih s0 hP hD hS hf ls hl) hA hP hD hS hf ls hl
set_option maxHeartbeats 4000000 in
set_option maxRecDepth 100000 in
theorem k_Mo_readAll_b0 {p : Program} {l : Launch} {e : Env} {s : State} {m : MethodId} {args : Array Value} {below : List Frame} {meth : Method} {c : Code} {dC : Nat → ClassId} {dI : Nat → Nat → Nat} {cy : Nat → ClassId} {A : Nat → Prop} {o0 : Nat} {a0 : Nat → Nat} {N : Nat} {y : zSt} (C0 : zCx p s m args meth c cX11_readAll 1 none RX11 (dC, dI) cy) (s0 : zSt) (hA : ∀ q, s.heap.size ≤ q → A q) {H : Heap} {locs : List Loc} (hP : va_P (dC, dI) vwCl (wd_Mo_readAll cy o0 a0 (zI s0) (zL s0) (zA s0 0) (zB s0 10) (zA s0 11) (zA s0 12) (zA s0 13) (zA s0 14) (zA s0 15)) H) (hD : va_D A (wd_Mo_readAll cy o0 a0 (zI s0) (zL s0) (zA s0 0) (zB s0 10) (zA s0 11) (zA s0 12) (zA s0 13) (zA s0 14) (zA s0 15))) (hS : va_S A s.heap H locs) (hf : Mo_readAll_b0 N s0 = some y) (ls : Array Slot) (hl : lv_has ls 1 [(0, .ref o0)]) : W p l e rm_Mo_readAll s m args below meth c H locs 0 0 (MQ below (zQv (dC, dI) cy (wd_Mo_readAll cy o0 a0 (zI y) (zL y) (zA y 0) (zB y 10) (zA y 11) (zA y 12) (zA y 13) (zA y 14) (zA y 15)) A) args s 0 0 A) (F0 m 0 ls []) := by
  obtain ⟨hx, hb, hr, hml, hown, hT, hk, hK⟩ := id C0
  refine lv_aload_n hx hb dX11_readAll_0 rfl (lv_at hl 0 rfl) ?_
  refine lv_aload_n hx hb dX11_readAll_1 rfl (lv_at hl 0 rfl) ?_
  refine zget (v := .int (zI s0 1)) hx hb hown hT hK hP inX11 rfl smX11 0 rfl 1 (by decide) tb_1003 rfl dX11_readAll_2 ?_
  refine zput (fs' := fs_Mo a0 (upd (zI s0) 5 (zI s0 1)) (zL s0)) (ws' := (wd_Mo_readAll cy o0 a0 (upd (zI s0) 5 (zI s0 1)) (zL s0) (zA s0 0) (zB s0 10) (zA s0 11) (zA s0 12) (zA s0 13) (zA s0 14) (zA s0 15))) hx hb hown hT hK hP hD hS inX11 rfl smX11 tyX11_ok nmX11 0 rfl 5 (by decide) tb_1007 rfl rfl rfl (Nat.le_of_ble_eq_true rfl) rfl rfl dX11_readAll_5 (fun H locs hP hD hS => ?_)
  refine lv_aload_n hx hb dX11_readAll_8 rfl (lv_at hl 0 rfl) ?_
  refine lv_iconst (v := 0) hx hb dX11_readAll_9 (by decide) ?_
  refine zput (fs' := fs_Mo a0 (upd (upd (zI s0) 5 (zI s0 1)) 1 0) (zL s0)) (ws' := (wd_Mo_readAll cy o0 a0 (upd (upd (zI s0) 5 (zI s0 1)) 1 0) (zL s0) (zA s0 0) (zB s0 10) (zA s0 11) (zA s0 12) (zA s0 13) (zA s0 14) (zA s0 15))) hx hb hown hT hK hP hD hS inX11 rfl smX11 tyX11_ok nmX11 0 rfl 1 (by decide) tb_1003 rfl rfl rfl (Nat.le_of_ble_eq_true rfl) rfl rfl dX11_readAll_10 (fun H locs hP hD hS => ?_)
  refine lv_aload_n hx hb dX11_readAll_13 rfl (lv_at hl 0 rfl) ?_
  refine lv_iconst (v := 0) hx hb dX11_readAll_14 (by decide) ?_
  refine zput (fs' := fs_Mo a0 (upd (upd (upd (zI s0) 5 (zI s0 1)) 1 0) 4 0) (zL s0)) (ws' := (wd_Mo_readAll cy o0 a0 (upd (upd (upd (zI s0) 5 (zI s0 1)) 1 0) 4 0) (zL s0) (zA s0 0) (zB s0 10) (zA s0 11) (zA s0 12) (zA s0 13) (zA s0 14) (zA s0 15))) hx hb hown hT hK hP hD hS inX11 rfl smX11 tyX11_ok nmX11 0 rfl 4 (by decide) tb_1006 rfl rfl rfl (Nat.le_of_ble_eq_true rfl) rfl rfl dX11_readAll_15 (fun H locs hP hD hS => ?_)
  refine lv_aload_n hx hb dX11_readAll_18 rfl (lv_at hl 0 rfl) ?_
  refine lv_iconst (v := 0) hx hb dX11_readAll_19 (by decide) ?_
  refine zput (fs' := fs_Mo a0 (upd (upd (upd (upd (zI s0) 5 (zI s0 1)) 1 0) 4 0) 2 0) (zL s0)) (ws' := (wd_Mo_readAll cy o0 a0 (upd (upd (upd (upd (zI s0) 5 (zI s0 1)) 1 0) 4 0) 2 0) (zL s0) (zA s0 0) (zB s0 10) (zA s0 11) (zA s0 12) (zA s0 13) (zA s0 14) (zA s0 15))) hx hb hown hT hK hP hD hS inX11 rfl smX11 tyX11_ok nmX11 0 rfl 2 (by decide) tb_1004 rfl rfl rfl (Nat.le_of_ble_eq_true rfl) rfl rfl dX11_readAll_20 (fun H locs hP hD hS => ?_)
  refine lv_aload_n hx hb dX11_readAll_23 rfl (lv_at hl 0 rfl) ?_
  refine lv_iconst (v := (-1)) hx hb dX11_readAll_24 (by decide) ?_
  refine zput (fs' := fs_Mo a0 (upd (upd (upd (upd (upd (zI s0) 5 (zI s0 1)) 1 0) 4 0) 2 0) 3 (-1)) (zL s0)) (ws' := (wd_Mo_readAll cy o0 a0 (upd (upd (upd (upd (upd (zI s0) 5 (zI s0 1)) 1 0) 4 0) 2 0) 3 (-1)) (zL s0) (zA s0 0) (zB s0 10) (zA s0 11) (zA s0 12) (zA s0 13) (zA s0 14) (zA s0 15))) hx hb hown hT hK hP hD hS inX11 rfl smX11 tyX11_ok nmX11 0 rfl 3 (by decide) tb_1005 rfl rfl rfl (Nat.le_of_ble_eq_true rfl) rfl rfl dX11_readAll_25 (fun H locs hP hD hS => ?_)
  refine lv_aload_n hx hb dX11_readAll_28 rfl (lv_at hl 0 rfl) ?_
  refine lv_iconst (v := 0) hx hb dX11_readAll_29 (by decide) ?_
  refine zput (fs' := fs_Mo a0 (upd (upd (upd (upd (upd (upd (zI s0) 5 (zI s0 1)) 1 0) 4 0) 2 0) 3 (-1)) 22 0) (zL s0)) (ws' := (wd_Mo_readAll cy o0 a0 (upd (upd (upd (upd (upd (upd (zI s0) 5 (zI s0 1)) 1 0) 4 0) 2 0) 3 (-1)) 22 0) (zL s0) (zA s0 0) (zB s0 10) (zA s0 11) (zA s0 12) (zA s0 13) (zA s0 14) (zA s0 15))) hx hb hown hT hK hP hD hS inX11 rfl smX11 tyX11_ok nmX11 0 rfl 22 (by decide) tb_1024 rfl rfl rfl (Nat.le_of_ble_eq_true rfl) rfl rfl dX11_readAll_30 (fun H locs hP hD hS => ?_)
  refine lv_aload_n hx hb dX11_readAll_33 rfl (lv_at hl 0 rfl) ?_
  refine lv_iconst (v := 0) hx hb dX11_readAll_34 (by decide) ?_
  refine zput (fs' := fs_Mo a0 (upd (upd (upd (upd (upd (upd (upd (zI s0) 5 (zI s0 1)) 1 0) 4 0) 2 0) 3 (-1)) 22 0) 23 0) (zL s0)) (ws' := (wd_Mo_readAll cy o0 a0 (upd (upd (upd (upd (upd (upd (upd (zI s0) 5 (zI s0 1)) 1 0) 4 0) 2 0) 3 (-1)) 22 0) 23 0) (zL s0) (zA s0 0) (zB s0 10) (zA s0 11) (zA s0 12) (zA s0 13) (zA s0 14) (zA s0 15))) hx hb hown hT hK hP hD hS inX11 rfl smX11 tyX11_ok nmX11 0 rfl 23 (by decide) tb_1025 rfl rfl rfl (Nat.le_of_ble_eq_true rfl) rfl rfl dX11_readAll_35 (fun H locs hP hD hS => ?_)
  refine lv_aload_n hx hb dX11_readAll_38 rfl (lv_at hl 0 rfl) ?_
  refine lv_iconst (v := 0) hx hb dX11_readAll_39 (by decide) ?_
  refine zput (fs' := fs_Mo a0 (upd (upd (upd (upd (upd (upd (upd (upd (zI s0) 5 (zI s0 1)) 1 0) 4 0) 2 0) 3 (-1)) 22 0) 23 0) 24 0) (zL s0)) (ws' := (wd_Mo_readAll cy o0 a0 (upd (upd (upd (upd (upd (upd (upd (upd (zI s0) 5 (zI s0 1)) 1 0) 4 0) 2 0) 3 (-1)) 22 0) 23 0) 24 0) (zL s0) (zA s0 0) (zB s0 10) (zA s0 11) (zA s0 12) (zA s0 13) (zA s0 14) (zA s0 15))) hx hb hown hT hK hP hD hS inX11 rfl smX11 tyX11_ok nmX11 0 rfl 24 (by decide) tb_1026 rfl rfl rfl (Nat.le_of_ble_eq_true rfl) rfl rfl dX11_readAll_40 (fun H locs hP hD hS => ?_)
  refine lv_aload_n hx hb dX11_readAll_43 rfl (lv_at hl 0 rfl) ?_
  refine lv_iconst (v := 0) hx hb dX11_readAll_44 (by decide) ?_
  refine zput (fs' := fs_Mo a0 (upd (upd (upd (upd (upd (upd (upd (upd (upd (zI s0) 5 (zI s0 1)) 1 0) 4 0) 2 0) 3 (-1)) 22 0) 23 0) 24 0) 25 0) (zL s0)) (ws' := (wd_Mo_readAll cy o0 a0 (upd (upd (upd (upd (upd (upd (upd (upd (upd (zI s0) 5 (zI s0 1)) 1 0) 4 0) 2 0) 3 (-1)) 22 0) 23 0) 24 0) 25 0) (zL s0) (zA s0 0) (zB s0 10) (zA s0 11) (zA s0 12) (zA s0 13) (zA s0 14) (zA s0 15))) hx hb hown hT hK hP hD hS inX11 rfl smX11 tyX11_ok nmX11 0 rfl 25 (by decide) tb_1027 rfl rfl rfl (Nat.le_of_ble_eq_true rfl) rfl rfl dX11_readAll_45 (fun H locs hP hD hS => ?_)
  refine lv_aload_n hx hb dX11_readAll_48 rfl (lv_at hl 0 rfl) ?_
  refine lv_iconst (v := 0) hx hb dX11_readAll_49 (by decide) ?_
  refine zput (fs' := fs_Mo a0 (upd (upd (upd (upd (upd (upd (upd (upd (upd (upd (zI s0) 5 (zI s0 1)) 1 0) 4 0) 2 0) 3 (-1)) 22 0) 23 0) 24 0) 25 0) 26 0) (zL s0)) (ws' := (wd_Mo_readAll cy o0 a0 (upd (upd (upd (upd (upd (upd (upd (upd (upd (upd (zI s0) 5 (zI s0 1)) 1 0) 4 0) 2 0) 3 (-1)) 22 0) 23 0) 24 0) 25 0) 26 0) (zL s0) (zA s0 0) (zB s0 10) (zA s0 11) (zA s0 12) (zA s0 13) (zA s0 14) (zA s0 15))) hx hb hown hT hK hP hD hS inX11 rfl smX11 tyX11_ok nmX11 0 rfl 26 (by decide) tb_1028 rfl rfl rfl (Nat.le_of_ble_eq_true rfl) rfl rfl dX11_readAll_50 (fun H locs hP hD hS => ?_)
  refine lv_aload_n hx hb dX11_readAll_53 rfl (lv_at hl 0 rfl) ?_
  refine lv_iconst (v := 0) hx hb dX11_readAll_54 (by decide) ?_
  refine zput (fs' := fs_Mo a0 (upd (upd (upd (upd (upd (upd (upd (upd (upd (upd (upd (zI s0) 5 (zI s0 1)) 1 0) 4 0) 2 0) 3 (-1)) 22 0) 23 0) 24 0) 25 0) 26 0) 27 0) (zL s0)) (ws' := (wd_Mo_readAll cy o0 a0 (upd (upd (upd (upd (upd (upd (upd (upd (upd (upd (upd (zI s0) 5 (zI s0 1)) 1 0) 4 0) 2 0) 3 (-1)) 22 0) 23 0) 24 0) 25 0) 26 0) 27 0) (zL s0) (zA s0 0) (zB s0 10) (zA s0 11) (zA s0 12) (zA s0 13) (zA s0 14) (zA s0 15))) hx hb hown hT hK hP hD hS inX11 rfl smX11 tyX11_ok nmX11 0 rfl 27 (by decide) tb_1029 rfl rfl rfl (Nat.le_of_ble_eq_true rfl) rfl rfl dX11_readAll_55 (fun H locs hP hD hS => ?_)
  refine lv_aload_n hx hb dX11_readAll_58 rfl (lv_at hl 0 rfl) ?_
  obtain ⟨z1, hc2, hf⟩ := zbd_some hf
  refine zwv (wr := [(a0 10, .inl (cy 1, 48, .inr (.inl (zB s0 10)))), (a0 11, .inl (cy 0, 11, .inl (zA s0 11))), (a0 12, .inl (cy 0, 11, .inl (zA s0 12))), (a0 13, .inl (cy 0, 11, .inl (zA s0 13))), (a0 14, .inl (cy 0, 4, .inl (zA s0 14))), (a0 15, .inl (cy 0, 11, .inl (zA s0 15)))]) (ws' := (wd_Mo_readAll cy o0 a0 (zI z1) (zL z1) (zA z1 0) (zB s0 10) (zA s0 11) (zA s0 12) (zA s0 13) (zA s0 14) (zA s0 15))) (zV (As := []) hx hb hml hown hT hl.1 (c_Mo_token o0 a0 (zpI (zpI (zpI (zpI (zpI (zpI (zpI (zpI (zpI (zpI (zpI s0 5 (zI s0 1)) 1 0) 4 0) 2 0) 3 (-1)) 22 0) 23 0) 24 0) 25 0) 26 0) 27 0) hc2) zY_Mo_token tb_1216 (zpRw hK hP hD [0, 1] (by decide) rfl 0 11 rfl rfl rfl rfl) rm_ok_Mo_readAll_Mo_token rfl rfl (Nat.le_of_ble_eq_true rfl) dX11_readAll_59 ⟨Nat.zero_le _, Nat.zero_le _⟩) hP hD hS hA [0, 1] [2, 3, 4, 5, 6, 7] [6, 7, 0, 1, 2, 3, 4, 5] rfl rfl (by decide) (by decide) (by decide) rfl rfl (fun H locs hP hD hS => ?_)
  exact k_Mo_readAll_h62 C0   hA N (zmg [10,11,12,13,14,15] z1 (zpI (zpI (zpI (zpI (zpI (zpI (zpI (zpI (zpI (zpI (zpI s0 5 (zI s0 1)) 1 0) 4 0) 2 0) 3 (-1)) 22 0) 23 0) 24 0) 25 0) 26 0) 27 0)) hP hD hS hf _ (lv_sub hl [0] rfl)
set_option maxHeartbeats 4000000 in
set_option maxRecDepth 100000 in
theorem c_Mo_readAll {l : Launch} {dC : Nat → ClassId} {dI : Nat → Nat → Nat} {cy : Nat → ClassId} {sz : Nat} {N : Nat} (o0 : Nat) (a0 : Nat → Nat) (s0 : zSt) {y : zSt} (hf : Mo_readAll N s0 = some y) : Met l yX11_readAll (.code yX11_readAll cX11_readAll 1 none :: zt) rm_Mo_readAll (va_Pc [.ref o0] (zPre (dC, dI) cy (wd_Mo_readAll cy o0 a0 (zI s0) (zL s0) (zA s0 0) (zB s0 10) (zA s0 11) (zA s0 12) (zA s0 13) (zA s0 14) (zA s0 15)) sz)) (zQv (dC, dI) cy (wd_Mo_readAll cy o0 a0 (zI y) (zL y) (zA y 0) (zB y 10) (zA y 11) (zA y 12) (zA y 13) (zA y 14) (zA y 15)) (va_A (wd_Mo_readAll cy o0 a0 (zI s0) (zL s0) (zA s0 0) (zB s0 10) (zA s0 11) (zA s0 12) (zA s0 13) (zA s0 14) (zA s0 15)) sz)) 0 0 (va_A (wd_Mo_readAll cy o0 a0 (zI s0) (zL s0) (zA s0 0) (zB s0 10) (zA s0 11) (zA s0 12) (zA s0 13) (zA s0 14) (zA s0 15)) sz) :=
  zentW (Qw := fun A => (zQv (dC, dI) cy (wd_Mo_readAll cy o0 a0 (zI y) (zL y) (zA y 0) (zB y 10) (zA y 11) (zA y 12) (zA y 13) (zA y 14) (zA y 15)) A)) (by decide +kernel) (Nat.le_of_ble_eq_true rfl) (fun p e s m below meth c A C0 hA hP hD hS ls hl => k_Mo_readAll_b0 C0 s0 hA hP hD hS hf ls hl)
def wd_Mo_beastSet (cy : Nat → ClassId) (o0 : Nat) (a0 : Nat → Nat) (g0 : Nat → Int32) (h0 : Nat → Int64) (x0_21 : Nat → Int32) : va_W := [(o0, .inr (11, fs_Mo a0 g0 h0)), (a0 21, .inl (cy 0, 9, .inl x0_21))]
def rm_Mo_beastSet : Room := { frames := 1, cells := 0, slots := 0, locals := 40 }
set_option maxHeartbeats 4000000 in
set_option maxRecDepth 100000 in
theorem k_Mo_beastSet_b4 {p : Program} {l : Launch} {e : Env} {s : State} {m : MethodId} {args : Array Value} {below : List Frame} {meth : Method} {c : Code} {dC : Nat → ClassId} {dI : Nat → Nat → Nat} {cy : Nat → ClassId} {o0 : Nat} {a0 : Nat → Nat} {N : Nat} {kh4 : Int32 → Int32 → Option (Int32)} {y : Int32} (C0 : zCx p s m args meth c cX11_beastSet 3 (some .int) RX11 (dC, dI) cy) (s0 : zSt) (v1 : Int32) (v2 : Int32) (hk4 : ∀ (v1 : Int32) (v2 : Int32) (_ : kh4 v1 v2 = some y) (ls : Array Slot) (_ : lv_has ls 3 [(0, .ref o0), (1, .int v1), (2, .int v2)]), W p l e rm_Mo_beastSet s m args below meth c s.heap [] 0 0 (MQ below (zSi y) args s 0 0 (fun _ => False)) (F0 m 4 ls [])) (hP : va_P (dC, dI) vwCl (wd_Mo_beastSet cy o0 a0 (zI s0) (zL s0) (zA s0 21)) s.heap) (hf : Mo_beastSet_b4 N kh4 s0 v1 v2 = some y) (ls : Array Slot) (hl : lv_has ls 3 [(0, .ref o0), (1, .int v1), (2, .int v2)]) : W p l e rm_Mo_beastSet s m args below meth c s.heap [] 0 0 (MQ below (zSi y) args s 0 0 (fun _ => False)) (F0 m 4 ls []) := by
  obtain ⟨hx, hb, hr, hml, hown, hT, hk, hK⟩ := id C0
  refine lv_iload_n hx hb dX11_beastSet_4 rfl (lv_at hl 2 rfl) ?_
  refine lv_aload_n hx hb dX11_beastSet_5 rfl (lv_at hl 0 rfl) ?_
  refine zget (v := .int (zI s0 30)) hx hb hown hT hK hP inX11 rfl smX11 0 rfl 30 (by decide) tb_1032 rfl dX11_beastSet_6 ?_
  refine lv_icmp_ge (tgt := 29) hx hb dX11_beastSet_9 (by decide) (fun hb_1 => ?_) (fun hb_1 => ?_)
  · have hf := zif_t hb_1 hf
    refine lv_iload_n hx hb dX11_beastSet_29 rfl (lv_at hl 1 rfl) ?_
    cases hf
    exact zeri hx hb hr hk dX11_beastSet_30
  · have hf := zif_f hb_1 hf
    refine lv_iload_n hx hb dX11_beastSet_12 rfl (lv_at hl 1 rfl) ?_
    refine lv_iconst (v := 1) hx hb dX11_beastSet_13 (by decide) ?_
    refine lv_aload_n hx hb dX11_beastSet_14 rfl (lv_at hl 0 rfl) ?_
    refine zget (v := .ref (a0 21)) hx hb hown hT hK hP inX11 rfl smX11 0 rfl 21 (by decide) tb_1023 rfl dX11_beastSet_15 ?_
    refine lv_iload_n hx hb dX11_beastSet_18 rfl (lv_at hl 2 rfl) ?_
    obtain ⟨hi2, hf⟩ := zck_some hf
    refine va_iald hx hb hK.1 hP 1 0 rfl rfl hi2 dX11_beastSet_19 ?_
    refine lv_ishl hx hb dX11_beastSet_20 ?_
    refine lv_ior hx hb dX11_beastSet_21 ?_
    refine lv_istore_n (lv' := [(1, .int (v1 ||| ((1 : Int32) <<< (((zA s0 21) (Int32.toNatClampNeg v2)) &&& 31)))), (0, .ref o0), (2, .int v2)]) hx hb dX11_beastSet_22 rfl hl (by decide) rfl (fun ls hl => ?_)
    refine lv_iinc (v := v2 + 1) (lv' := [(2, .int (v2 + 1)), (1, .int (v1 ||| ((1 : Int32) <<< (((zA s0 21) (Int32.toNatClampNeg v2)) &&& 31)))), (0, .ref o0)]) hx hb dX11_beastSet_23 hl (k := 2) rfl rfl (by decide) rfl (fun ls hl => ?_)
    refine lv_goto (tgt := 4) hx hb dX11_beastSet_26 (by decide) ?_
    exact hk4 (v1 ||| ((1 : Int32) <<< (((zA s0 21) (Int32.toNatClampNeg v2)) &&& 31))) (v2 + 1) hf _ (lv_sub hl [2, 1, 0] rfl)
set_option maxHeartbeats 4000000 in
set_option maxRecDepth 100000 in
theorem k_Mo_beastSet_h4 {p : Program} {l : Launch} {e : Env} {s : State} {m : MethodId} {args : Array Value} {below : List Frame} {meth : Method} {c : Code} {dC : Nat → ClassId} {dI : Nat → Nat → Nat} {cy : Nat → ClassId} {o0 : Nat} {a0 : Nat → Nat} {N : Nat} {y : Int32} (C0 : zCx p s m args meth c cX11_beastSet 3 (some .int) RX11 (dC, dI) cy) (s0 : zSt) (hP : va_P (dC, dI) vwCl (wd_Mo_beastSet cy o0 a0 (zI s0) (zL s0) (zA s0 21)) s.heap) : ∀ (n : Nat) (v1 : Int32) (v2 : Int32) (hf : Mo_beastSet_h4 N s0 n v1 v2 = some y) (ls : Array Slot) (hl : lv_has ls 3 [(0, .ref o0), (1, .int v1), (2, .int v2)]), W p l e rm_Mo_beastSet s m args below meth c s.heap [] 0 0 (MQ below (zSi y) args s 0 0 (fun _ => False)) (F0 m 4 ls []) := by
  intro n
  induction n with
  | zero => intro v1 v2 hf; cases hf
  | succ n ih =>
    intro v1 v2 hf ls hl
    have hf : Mo_beastSet_b4 N (Mo_beastSet_h4 N s0 n) s0 v1 v2 = some y := hf
    exact k_Mo_beastSet_b4 C0 s0 v1 v2 (fun v1 v2 hf ls hl => ih v1 v2 hf ls hl) hP hf ls hl
set_option maxHeartbeats 4000000 in
set_option maxRecDepth 100000 in
theorem k_Mo_beastSet_b0 {p : Program} {l : Launch} {e : Env} {s : State} {m : MethodId} {args : Array Value} {below : List Frame} {meth : Method} {c : Code} {dC : Nat → ClassId} {dI : Nat → Nat → Nat} {cy : Nat → ClassId} {o0 : Nat} {a0 : Nat → Nat} {N : Nat} {y : Int32} (C0 : zCx p s m args meth c cX11_beastSet 3 (some .int) RX11 (dC, dI) cy) (s0 : zSt) (hP : va_P (dC, dI) vwCl (wd_Mo_beastSet cy o0 a0 (zI s0) (zL s0) (zA s0 21)) s.heap) (hf : Mo_beastSet_b0 N s0 = some y) (ls : Array Slot) (hl : lv_has ls 3 [(0, .ref o0)]) : W p l e rm_Mo_beastSet s m args below meth c s.heap [] 0 0 (MQ below (zSi y) args s 0 0 (fun _ => False)) (F0 m 0 ls []) := by
  obtain ⟨hx, hb, hr, hml, hown, hT, hk, hK⟩ := id C0
  refine lv_iconst (v := 0) hx hb dX11_beastSet_0 (by decide) ?_
  refine lv_istore_n (lv' := [(1, .int 0), (0, .ref o0)]) hx hb dX11_beastSet_1 rfl hl (by decide) rfl (fun ls hl => ?_)
  refine lv_iconst (v := 0) hx hb dX11_beastSet_2 (by decide) ?_
  refine lv_istore_n (lv' := [(2, .int 0), (1, .int 0), (0, .ref o0)]) hx hb dX11_beastSet_3 rfl hl (by decide) rfl (fun ls hl => ?_)
  exact k_Mo_beastSet_h4 C0 s0  hP N 0 0 hf _ (lv_sub hl [2, 1, 0] rfl)
set_option maxHeartbeats 4000000 in
set_option maxRecDepth 100000 in
theorem c_Mo_beastSet {l : Launch} {dC : Nat → ClassId} {dI : Nat → Nat → Nat} {cy : Nat → ClassId} {N : Nat} (o0 : Nat) (a0 : Nat → Nat) (s0 : zSt) {y : Int32} (hf : Mo_beastSet N s0 = some y) : Met l yX11_beastSet (.code yX11_beastSet cX11_beastSet 3 (some .int) :: zt) rm_Mo_beastSet (va_Pc [.ref o0] (zRd (dC, dI) cy (wd_Mo_beastSet cy o0 a0 (zI s0) (zL s0) (zA s0 21)))) (zSi y) 0 0 (fun _ => False) :=
  zentR (by decide +kernel) (Nat.le_of_ble_eq_true rfl) (fun p e s m below meth c C0 hP ls hl => k_Mo_beastSet_b0 C0 s0 hP hf ls hl)
def wd_Mo_valley (cy : Nat → ClassId) (o0 : Nat) (a0 : Nat → Nat) (g0 : Nat → Int32) (h0 : Nat → Int64) (x0_0 : Nat → Int32) (x0_10 : Nat → Int64) (x0_11 : Nat → Int32) (x0_12 : Nat → Int32) (x0_13 : Nat → Int32) (x0_14 : Nat → Int32) (x0_15 : Nat → Int32) (x0_16 : Nat → Int32) (x0_17 : Nat → Int32) (x0_18 : Nat → Int32) (x0_19 : Nat → Int32) (x0_20 : Nat → Int32) (x0_21 : Nat → Int32) (x0_33 : Nat → Int32) (x0_62 : Nat → Int32) : va_W := [(o0, .inr (11, fs_Mo a0 g0 h0)), (a0 0, .inl (cy 0, 1500, .inl x0_0)), (a0 10, .inl (cy 1, 48, .inr (.inl x0_10))), (a0 11, .inl (cy 0, 11, .inl x0_11)), (a0 12, .inl (cy 0, 11, .inl x0_12)), (a0 13, .inl (cy 0, 11, .inl x0_13)), (a0 14, .inl (cy 0, 4, .inl x0_14)), (a0 15, .inl (cy 0, 11, .inl x0_15)), (a0 16, .inl (cy 0, 11, .inl x0_16)), (a0 17, .inl (cy 0, 11, .inl x0_17)), (a0 18, .inl (cy 0, 11, .inl x0_18)), (a0 19, .inl (cy 0, 4, .inl x0_19)), (a0 20, .inl (cy 0, 11, .inl x0_20)), (a0 21, .inl (cy 0, 9, .inl x0_21)), (a0 33, .inl (cy 0, 11, .inl x0_33)), (a0 62, .inl (cy 3, 3, .inl x0_62))]
def rm_Mo_valley : Room := { frames := 9, cells := 0, slots := 0, locals := 212 }
theorem rm_ok_Mo_valley_Mo_beastSet : rm_Mo_beastSet.cells = 0 ∧ rm_Mo_beastSet.slots = 0 ∧ rm_Mo_beastSet.frames + 1 ≤ rm_Mo_valley.frames ∧ 8 + (3 + 11) + rm_Mo_beastSet.locals ≤ rm_Mo_valley.locals := by decide
theorem rm_ok_Mo_valley_Mo_readAll : rm_Mo_readAll.cells = 0 ∧ rm_Mo_readAll.slots = 0 ∧ rm_Mo_readAll.frames + 1 ≤ rm_Mo_valley.frames ∧ 8 + (1 + 11) + rm_Mo_readAll.locals ≤ rm_Mo_valley.locals := by decide
set_option maxHeartbeats 4000000 in
set_option maxRecDepth 100000 in
theorem k_Mo_valley_b229 {p : Program} {l : Launch} {e : Env} {s : State} {m : MethodId} {args : Array Value} {below : List Frame} {meth : Method} {c : Code} {dC : Nat → ClassId} {dI : Nat → Nat → Nat} {cy : Nat → ClassId} {A : Nat → Prop} {o0 : Nat} {a0 : Nat → Nat} {N : Nat} {kh229 : zSt → Int32 → Option (Int32 × zSt)} {y : Int32 × zSt} (C0 : zCx p s m args meth c cX11_valley 2 (some .int) RX11 (dC, dI) cy) (s0 : zSt) (v1 : Int32) (hk229 : ∀ (s0 : zSt) (v1 : Int32) {H : Heap} {locs : List Loc} (_ : va_P (dC, dI) vwCl (wd_Mo_valley cy o0 a0 (zI s0) (zL s0) (zA s0 0) (zB s0 10) (zA s0 11) (zA s0 12) (zA s0 13) (zA s0 14) (zA s0 15) (zA s0 16) (zA s0 17) (zA s0 18) (zA s0 19) (zA s0 20) (zA s0 21) (zA s0 33) (zA s0 62)) H) (_ : va_D A (wd_Mo_valley cy o0 a0 (zI s0) (zL s0) (zA s0 0) (zB s0 10) (zA s0 11) (zA s0 12) (zA s0 13) (zA s0 14) (zA s0 15) (zA s0 16) (zA s0 17) (zA s0 18) (zA s0 19) (zA s0 20) (zA s0 21) (zA s0 33) (zA s0 62))) (_ : va_S A s.heap H locs) (_ : kh229 s0 v1 = some y) (ls : Array Slot) (_ : lv_has ls 2 [(0, .ref o0), (1, .int v1)]), W p l e rm_Mo_valley s m args below meth c H locs 0 0 (MQ below (zQi y.1 (dC, dI) cy (wd_Mo_valley cy o0 a0 (zI y.2) (zL y.2) (zA y.2 0) (zB y.2 10) (zA y.2 11) (zA y.2 12) (zA y.2 13) (zA y.2 14) (zA y.2 15) (zA y.2 16) (zA y.2 17) (zA y.2 18) (zA y.2 19) (zA y.2 20) (zA y.2 21) (zA y.2 33) (zA y.2 62)) A) args s 0 0 A) (F0 m 229 ls [])) (hA : ∀ q, s.heap.size ≤ q → A q) {H : Heap} {locs : List Loc} (hP : va_P (dC, dI) vwCl (wd_Mo_valley cy o0 a0 (zI s0) (zL s0) (zA s0 0) (zB s0 10) (zA s0 11) (zA s0 12) (zA s0 13) (zA s0 14) (zA s0 15) (zA s0 16) (zA s0 17) (zA s0 18) (zA s0 19) (zA s0 20) (zA s0 21) (zA s0 33) (zA s0 62)) H) (hD : va_D A (wd_Mo_valley cy o0 a0 (zI s0) (zL s0) (zA s0 0) (zB s0 10) (zA s0 11) (zA s0 12) (zA s0 13) (zA s0 14) (zA s0 15) (zA s0 16) (zA s0 17) (zA s0 18) (zA s0 19) (zA s0 20) (zA s0 21) (zA s0 33) (zA s0 62))) (hS : va_S A s.heap H locs) (hf : Mo_valley_b229 N kh229 s0 v1 = some y) (ls : Array Slot) (hl : lv_has ls 2 [(0, .ref o0), (1, .int v1)]) : W p l e rm_Mo_valley s m args below meth c H locs 0 0 (MQ below (zQi y.1 (dC, dI) cy (wd_Mo_valley cy o0 a0 (zI y.2) (zL y.2) (zA y.2 0) (zB y.2 10) (zA y.2 11) (zA y.2 12) (zA y.2 13) (zA y.2 14) (zA y.2 15) (zA y.2 16) (zA y.2 17) (zA y.2 18) (zA y.2 19) (zA y.2 20) (zA y.2 21) (zA y.2 33) (zA y.2 62)) A) args s 0 0 A) (F0 m 229 ls []) := by
  obtain ⟨hx, hb, hr, hml, hown, hT, hk, hK⟩ := id C0
  refine lv_iload_n hx hb dX11_valley_229 rfl (lv_at hl 1 rfl) ?_
  refine lv_iconst (v := 3) hx hb dX11_valley_230 (by decide) ?_
  refine lv_icmp_ge (tgt := 247) hx hb dX11_valley_231 (by decide) (fun hb_1 => ?_) (fun hb_1 => ?_)
  · have hf := zif_t hb_1 hf
    refine lv_aload_n hx hb dX11_valley_247 rfl (lv_at hl 0 rfl) ?_
    refine zget (v := .int (zI s0 29)) hx hb hown hT hK hP inX11 rfl smX11 0 rfl 29 (by decide) tb_1031 rfl dX11_valley_248 ?_
    cases hf
    exact zewi hx hb hr hk hK hP hD hS dX11_valley_251
  · have hf := zif_f hb_1 hf
    refine lv_aload_n hx hb dX11_valley_234 rfl (lv_at hl 0 rfl) ?_
    refine zget (v := .ref (a0 62)) hx hb hown hT hK hP inX11 rfl smX11 0 rfl 62 (by decide) tb_1064 rfl dX11_valley_235 ?_
    refine lv_iload_n hx hb dX11_valley_238 rfl (lv_at hl 1 rfl) ?_
    refine lv_iconst (v := 0) hx hb dX11_valley_239 (by decide) ?_
    obtain ⟨hi2, hf⟩ := zck_some hf
    refine zzst (ws' := (wd_Mo_valley cy o0 a0 (zI s0) (zL s0) (zA s0 0) (zB s0 10) (zA s0 11) (zA s0 12) (zA s0 13) (zA s0 14) (zA s0 15) (zA s0 16) (zA s0 17) (zA s0 18) (zA s0 19) (zA s0 20) (zA s0 21) (zA s0 33) (upd (zA s0 62) (Int32.toNatClampNeg v1) 0))) hx hb hK hP hD hS 15 3 rfl rfl hi2 (by decide) rfl dX11_valley_240 (fun H locs hP hD hS => ?_)
    refine lv_iinc (v := v1 + 1) (lv' := [(1, .int (v1 + 1)), (0, .ref o0)]) hx hb dX11_valley_241 hl (k := 1) rfl rfl (by decide) rfl (fun ls hl => ?_)
    refine lv_goto (tgt := 229) hx hb dX11_valley_244 (by decide) ?_
    exact hk229 (zsA s0 62 (upd (zA s0 62) (Int32.toNatClampNeg v1) 0)) (v1 + 1) hP hD hS hf _ (lv_sub hl [1, 0] rfl)
set_option maxHeartbeats 4000000 in
set_option maxRecDepth 100000 in
theorem k_Mo_valley_h229 {p : Program} {l : Launch} {e : Env} {s : State} {m : MethodId} {args : Array Value} {below : List Frame} {meth : Method} {c : Code} {dC : Nat → ClassId} {dI : Nat → Nat → Nat} {cy : Nat → ClassId} {A : Nat → Prop} {o0 : Nat} {a0 : Nat → Nat} {N : Nat} {y : Int32 × zSt} (C0 : zCx p s m args meth c cX11_valley 2 (some .int) RX11 (dC, dI) cy) (hA : ∀ q, s.heap.size ≤ q → A q) : ∀ (n : Nat) (s0 : zSt) (v1 : Int32) {H : Heap} {locs : List Loc} (hP : va_P (dC, dI) vwCl (wd_Mo_valley cy o0 a0 (zI s0) (zL s0) (zA s0 0) (zB s0 10) (zA s0 11) (zA s0 12) (zA s0 13) (zA s0 14) (zA s0 15) (zA s0 16) (zA s0 17) (zA s0 18) (zA s0 19) (zA s0 20) (zA s0 21) (zA s0 33) (zA s0 62)) H) (hD : va_D A (wd_Mo_valley cy o0 a0 (zI s0) (zL s0) (zA s0 0) (zB s0 10) (zA s0 11) (zA s0 12) (zA s0 13) (zA s0 14) (zA s0 15) (zA s0 16) (zA s0 17) (zA s0 18) (zA s0 19) (zA s0 20) (zA s0 21) (zA s0 33) (zA s0 62))) (hS : va_S A s.heap H locs) (hf : Mo_valley_h229 N n s0 v1 = some y) (ls : Array Slot) (hl : lv_has ls 2 [(0, .ref o0), (1, .int v1)]), W p l e rm_Mo_valley s m args below meth c H locs 0 0 (MQ below (zQi y.1 (dC, dI) cy (wd_Mo_valley cy o0 a0 (zI y.2) (zL y.2) (zA y.2 0) (zB y.2 10) (zA y.2 11) (zA y.2 12) (zA y.2 13) (zA y.2 14) (zA y.2 15) (zA y.2 16) (zA y.2 17) (zA y.2 18) (zA y.2 19) (zA y.2 20) (zA y.2 21) (zA y.2 33) (zA y.2 62)) A) args s 0 0 A) (F0 m 229 ls []) := by
  intro n
  induction n with
  | zero => intro s0 v1 H locs hP hD hS hf; cases hf
  | succ n ih =>
    intro s0 v1 H locs hP hD hS hf ls hl
    have hf : Mo_valley_b229 N (Mo_valley_h229 N n) s0 v1 = some y := hf
    exact k_Mo_valley_b229 C0 s0 v1 (fun s0 v1 _ _ hP hD hS hf ls hl => ih s0 v1 hP hD hS hf ls hl) hA hP hD hS hf ls hl
set_option maxHeartbeats 4000000 in
set_option maxRecDepth 100000 in
theorem k_Mo_valley_b161 {p : Program} {l : Launch} {e : Env} {s : State} {m : MethodId} {args : Array Value} {below : List Frame} {meth : Method} {c : Code} {dC : Nat → ClassId} {dI : Nat → Nat → Nat} {cy : Nat → ClassId} {A : Nat → Prop} {o0 : Nat} {a0 : Nat → Nat} {N : Nat} {kh161 : zSt → Int32 → Option (Int32 × zSt)} {y : Int32 × zSt} (C0 : zCx p s m args meth c cX11_valley 2 (some .int) RX11 (dC, dI) cy) (s0 : zSt) (v1 : Int32) (hk161 : ∀ (s0 : zSt) (v1 : Int32) {H : Heap} {locs : List Loc} (_ : va_P (dC, dI) vwCl (wd_Mo_valley cy o0 a0 (zI s0) (zL s0) (zA s0 0) (zB s0 10) (zA s0 11) (zA s0 12) (zA s0 13) (zA s0 14) (zA s0 15) (zA s0 16) (zA s0 17) (zA s0 18) (zA s0 19) (zA s0 20) (zA s0 21) (zA s0 33) (zA s0 62)) H) (_ : va_D A (wd_Mo_valley cy o0 a0 (zI s0) (zL s0) (zA s0 0) (zB s0 10) (zA s0 11) (zA s0 12) (zA s0 13) (zA s0 14) (zA s0 15) (zA s0 16) (zA s0 17) (zA s0 18) (zA s0 19) (zA s0 20) (zA s0 21) (zA s0 33) (zA s0 62))) (_ : va_S A s.heap H locs) (_ : kh161 s0 v1 = some y) (ls : Array Slot) (_ : lv_has ls 2 [(0, .ref o0), (1, .int v1)]), W p l e rm_Mo_valley s m args below meth c H locs 0 0 (MQ below (zQi y.1 (dC, dI) cy (wd_Mo_valley cy o0 a0 (zI y.2) (zL y.2) (zA y.2 0) (zB y.2 10) (zA y.2 11) (zA y.2 12) (zA y.2 13) (zA y.2 14) (zA y.2 15) (zA y.2 16) (zA y.2 17) (zA y.2 18) (zA y.2 19) (zA y.2 20) (zA y.2 21) (zA y.2 33) (zA y.2 62)) A) args s 0 0 A) (F0 m 161 ls [])) (hA : ∀ q, s.heap.size ≤ q → A q) {H : Heap} {locs : List Loc} (hP : va_P (dC, dI) vwCl (wd_Mo_valley cy o0 a0 (zI s0) (zL s0) (zA s0 0) (zB s0 10) (zA s0 11) (zA s0 12) (zA s0 13) (zA s0 14) (zA s0 15) (zA s0 16) (zA s0 17) (zA s0 18) (zA s0 19) (zA s0 20) (zA s0 21) (zA s0 33) (zA s0 62)) H) (hD : va_D A (wd_Mo_valley cy o0 a0 (zI s0) (zL s0) (zA s0 0) (zB s0 10) (zA s0 11) (zA s0 12) (zA s0 13) (zA s0 14) (zA s0 15) (zA s0 16) (zA s0 17) (zA s0 18) (zA s0 19) (zA s0 20) (zA s0 21) (zA s0 33) (zA s0 62))) (hS : va_S A s.heap H locs) (hf : Mo_valley_b161 N kh161 s0 v1 = some y) (ls : Array Slot) (hl : lv_has ls 2 [(0, .ref o0), (1, .int v1)]) : W p l e rm_Mo_valley s m args below meth c H locs 0 0 (MQ below (zQi y.1 (dC, dI) cy (wd_Mo_valley cy o0 a0 (zI y.2) (zL y.2) (zA y.2 0) (zB y.2 10) (zA y.2 11) (zA y.2 12) (zA y.2 13) (zA y.2 14) (zA y.2 15) (zA y.2 16) (zA y.2 17) (zA y.2 18) (zA y.2 19) (zA y.2 20) (zA y.2 21) (zA y.2 33) (zA y.2 62)) A) args s 0 0 A) (F0 m 161 ls []) := by
  obtain ⟨hx, hb, hr, hml, hown, hT, hk, hK⟩ := id C0
  refine lv_iload_n hx hb dX11_valley_161 rfl (lv_at hl 1 rfl) ?_
  refine lv_iconst (v := 4) hx hb dX11_valley_162 (by decide) ?_
  refine lv_icmp_ge (tgt := 184) hx hb dX11_valley_163 (by decide) (fun hb_1 => ?_) (fun hb_1 => ?_)
  · have hf := zif_t hb_1 hf
    refine lv_aload_n hx hb dX11_valley_184 rfl (lv_at hl 0 rfl) ?_
    refine lv_aload_n hx hb dX11_valley_185 rfl (lv_at hl 0 rfl) ?_
    obtain ⟨z2, hc3, hf⟩ := zbd_some hf
    refine zri (zV (As := []) hx hb hml hown hT hl.1 (c_Mo_beastSet o0 a0 s0 hc3) zY_Mo_beastSet tb_1303 (zpR hK hP [0, 13] rfl 0 11 rfl rfl rfl) rm_ok_Mo_valley_Mo_beastSet rfl rfl (Nat.le_of_ble_eq_true rfl) dX11_valley_186 ⟨Nat.zero_le _, Nat.zero_le _⟩) ?_
    refine zput (fs' := fs_Mo a0 (upd (zI s0) 34 z2) (zL s0)) (ws' := (wd_Mo_valley cy o0 a0 (upd (zI s0) 34 z2) (zL s0) (zA s0 0) (zB s0 10) (zA s0 11) (zA s0 12) (zA s0 13) (zA s0 14) (zA s0 15) (zA s0 16) (zA s0 17) (zA s0 18) (zA s0 19) (zA s0 20) (zA s0 21) (zA s0 33) (zA s0 62))) hx hb hown hT hK hP hD hS inX11 rfl smX11 tyX11_ok nmX11 0 rfl 34 (by decide) tb_1036 rfl rfl rfl (Nat.le_of_ble_eq_true rfl) rfl rfl dX11_valley_189 (fun H locs hP hD hS => ?_)
    refine lv_aload_n hx hb dX11_valley_192 rfl (lv_at hl 0 rfl) ?_
    refine lv_iconst (v := 0) hx hb dX11_valley_193 (by decide) ?_
    refine zput (fs' := fs_Mo a0 (upd (upd (zI s0) 34 z2) 35 0) (zL s0)) (ws' := (wd_Mo_valley cy o0 a0 (upd (upd (zI s0) 34 z2) 35 0) (zL s0) (zA s0 0) (zB s0 10) (zA s0 11) (zA s0 12) (zA s0 13) (zA s0 14) (zA s0 15) (zA s0 16) (zA s0 17) (zA s0 18) (zA s0 19) (zA s0 20) (zA s0 21) (zA s0 33) (zA s0 62))) hx hb hown hT hK hP hD hS inX11 rfl smX11 tyX11_ok nmX11 0 rfl 35 (by decide) tb_1037 rfl rfl rfl (Nat.le_of_ble_eq_true rfl) rfl rfl dX11_valley_194 (fun H locs hP hD hS => ?_)
    refine lv_aload_n hx hb dX11_valley_197 rfl (lv_at hl 0 rfl) ?_
    refine lv_iconst (v := 0) hx hb dX11_valley_198 (by decide) ?_
    refine zput (fs' := fs_Mo a0 (upd (upd (upd (zI s0) 34 z2) 35 0) 36 0) (zL s0)) (ws' := (wd_Mo_valley cy o0 a0 (upd (upd (upd (zI s0) 34 z2) 35 0) 36 0) (zL s0) (zA s0 0) (zB s0 10) (zA s0 11) (zA s0 12) (zA s0 13) (zA s0 14) (zA s0 15) (zA s0 16) (zA s0 17) (zA s0 18) (zA s0 19) (zA s0 20) (zA s0 21) (zA s0 33) (zA s0 62))) hx hb hown hT hK hP hD hS inX11 rfl smX11 tyX11_ok nmX11 0 rfl 36 (by decide) tb_1038 rfl rfl rfl (Nat.le_of_ble_eq_true rfl) rfl rfl dX11_valley_199 (fun H locs hP hD hS => ?_)
    refine lv_aload_n hx hb dX11_valley_202 rfl (lv_at hl 0 rfl) ?_
    refine lv_iconst (v := 0) hx hb dX11_valley_203 (by decide) ?_
    refine zput (fs' := fs_Mo a0 (upd (upd (upd (upd (zI s0) 34 z2) 35 0) 36 0) 37 0) (zL s0)) (ws' := (wd_Mo_valley cy o0 a0 (upd (upd (upd (upd (zI s0) 34 z2) 35 0) 36 0) 37 0) (zL s0) (zA s0 0) (zB s0 10) (zA s0 11) (zA s0 12) (zA s0 13) (zA s0 14) (zA s0 15) (zA s0 16) (zA s0 17) (zA s0 18) (zA s0 19) (zA s0 20) (zA s0 21) (zA s0 33) (zA s0 62))) hx hb hown hT hK hP hD hS inX11 rfl smX11 tyX11_ok nmX11 0 rfl 37 (by decide) tb_1039 rfl rfl rfl (Nat.le_of_ble_eq_true rfl) rfl rfl dX11_valley_204 (fun H locs hP hD hS => ?_)
    refine lv_aload_n hx hb dX11_valley_207 rfl (lv_at hl 0 rfl) ?_
    refine lv_iconst (v := 0) hx hb dX11_valley_208 (by decide) ?_
    refine zput (fs' := fs_Mo a0 (upd (upd (upd (upd (upd (zI s0) 34 z2) 35 0) 36 0) 37 0) 38 0) (zL s0)) (ws' := (wd_Mo_valley cy o0 a0 (upd (upd (upd (upd (upd (zI s0) 34 z2) 35 0) 36 0) 37 0) 38 0) (zL s0) (zA s0 0) (zB s0 10) (zA s0 11) (zA s0 12) (zA s0 13) (zA s0 14) (zA s0 15) (zA s0 16) (zA s0 17) (zA s0 18) (zA s0 19) (zA s0 20) (zA s0 21) (zA s0 33) (zA s0 62))) hx hb hown hT hK hP hD hS inX11 rfl smX11 tyX11_ok nmX11 0 rfl 38 (by decide) tb_1040 rfl rfl rfl (Nat.le_of_ble_eq_true rfl) rfl rfl dX11_valley_209 (fun H locs hP hD hS => ?_)
    refine lv_aload_n hx hb dX11_valley_212 rfl (lv_at hl 0 rfl) ?_
    refine lv_iconst (v := 0) hx hb dX11_valley_213 (by decide) ?_
    refine zput (fs' := fs_Mo a0 (upd (upd (upd (upd (upd (upd (zI s0) 34 z2) 35 0) 36 0) 37 0) 38 0) 47 0) (zL s0)) (ws' := (wd_Mo_valley cy o0 a0 (upd (upd (upd (upd (upd (upd (zI s0) 34 z2) 35 0) 36 0) 37 0) 38 0) 47 0) (zL s0) (zA s0 0) (zB s0 10) (zA s0 11) (zA s0 12) (zA s0 13) (zA s0 14) (zA s0 15) (zA s0 16) (zA s0 17) (zA s0 18) (zA s0 19) (zA s0 20) (zA s0 21) (zA s0 33) (zA s0 62))) hx hb hown hT hK hP hD hS inX11 rfl smX11 tyX11_ok nmX11 0 rfl 47 (by decide) tb_1049 rfl rfl rfl (Nat.le_of_ble_eq_true rfl) rfl rfl dX11_valley_214 (fun H locs hP hD hS => ?_)
    refine lv_aload_n hx hb dX11_valley_217 rfl (lv_at hl 0 rfl) ?_
    refine lv_iconst (v := 0) hx hb dX11_valley_218 (by decide) ?_
    refine zput (fs' := fs_Mo a0 (upd (upd (upd (upd (upd (upd (upd (zI s0) 34 z2) 35 0) 36 0) 37 0) 38 0) 47 0) 58 0) (zL s0)) (ws' := (wd_Mo_valley cy o0 a0 (upd (upd (upd (upd (upd (upd (upd (zI s0) 34 z2) 35 0) 36 0) 37 0) 38 0) 47 0) 58 0) (zL s0) (zA s0 0) (zB s0 10) (zA s0 11) (zA s0 12) (zA s0 13) (zA s0 14) (zA s0 15) (zA s0 16) (zA s0 17) (zA s0 18) (zA s0 19) (zA s0 20) (zA s0 21) (zA s0 33) (zA s0 62))) hx hb hown hT hK hP hD hS inX11 rfl smX11 tyX11_ok nmX11 0 rfl 58 (by decide) tb_1060 rfl rfl rfl (Nat.le_of_ble_eq_true rfl) rfl rfl dX11_valley_219 (fun H locs hP hD hS => ?_)
    refine lv_aload_n hx hb dX11_valley_222 rfl (lv_at hl 0 rfl) ?_
    refine lv_iconst (v := 0) hx hb dX11_valley_223 (by decide) ?_
    refine zput (fs' := fs_Mo a0 (upd (upd (upd (upd (upd (upd (upd (upd (zI s0) 34 z2) 35 0) 36 0) 37 0) 38 0) 47 0) 58 0) 50 0) (zL s0)) (ws' := (wd_Mo_valley cy o0 a0 (upd (upd (upd (upd (upd (upd (upd (upd (zI s0) 34 z2) 35 0) 36 0) 37 0) 38 0) 47 0) 58 0) 50 0) (zL s0) (zA s0 0) (zB s0 10) (zA s0 11) (zA s0 12) (zA s0 13) (zA s0 14) (zA s0 15) (zA s0 16) (zA s0 17) (zA s0 18) (zA s0 19) (zA s0 20) (zA s0 21) (zA s0 33) (zA s0 62))) hx hb hown hT hK hP hD hS inX11 rfl smX11 tyX11_ok nmX11 0 rfl 50 (by decide) tb_1052 rfl rfl rfl (Nat.le_of_ble_eq_true rfl) rfl rfl dX11_valley_224 (fun H locs hP hD hS => ?_)
    refine lv_iconst (v := 0) hx hb dX11_valley_227 (by decide) ?_
    refine lv_istore_n (lv' := [(1, .int 0), (0, .ref o0)]) hx hb dX11_valley_228 rfl hl (by decide) rfl (fun ls hl => ?_)
    exact k_Mo_valley_h229 C0   hA N (zpI (zpI (zpI (zpI (zpI (zpI (zpI (zpI s0 34 z2) 35 0) 36 0) 37 0) 38 0) 47 0) 58 0) 50 0) 0 hP hD hS hf _ (lv_sub hl [1, 0] rfl)
  · have hf := zif_f hb_1 hf
    refine lv_aload_n hx hb dX11_valley_166 rfl (lv_at hl 0 rfl) ?_
    refine zget (v := .ref (a0 19)) hx hb hown hT hK hP inX11 rfl smX11 0 rfl 19 (by decide) tb_1021 rfl dX11_valley_167 ?_
    refine lv_iload_n hx hb dX11_valley_170 rfl (lv_at hl 1 rfl) ?_
    refine lv_aload_n hx hb dX11_valley_171 rfl (lv_at hl 0 rfl) ?_
    refine zget (v := .ref (a0 14)) hx hb hown hT hK hP inX11 rfl smX11 0 rfl 14 (by decide) tb_1016 rfl dX11_valley_172 ?_
    refine lv_iload_n hx hb dX11_valley_175 rfl (lv_at hl 1 rfl) ?_
    obtain ⟨hi4, hf⟩ := zck_some hf
    refine va_iald hx hb hK.1 hP 6 0 rfl rfl hi4 dX11_valley_176 ?_
    obtain ⟨hi5, hf⟩ := zck_some hf
    refine zast (ws' := (wd_Mo_valley cy o0 a0 (zI s0) (zL s0) (zA s0 0) (zB s0 10) (zA s0 11) (zA s0 12) (zA s0 13) (zA s0 14) (zA s0 15) (zA s0 16) (zA s0 17) (zA s0 18) (upd (zA s0 19) (Int32.toNatClampNeg v1) ((zA s0 14) (Int32.toNatClampNeg v1))) (zA s0 20) (zA s0 21) (zA s0 33) (zA s0 62))) hx hb hK hP hD hS 11 0 rfl rfl hi5 rfl dX11_valley_177 (fun H locs hP hD hS => ?_)
    refine lv_iinc (v := v1 + 1) (lv' := [(1, .int (v1 + 1)), (0, .ref o0)]) hx hb dX11_valley_178 hl (k := 1) rfl rfl (by decide) rfl (fun ls hl => ?_)
    refine lv_goto (tgt := 161) hx hb dX11_valley_181 (by decide) ?_
    exact hk161 (zsA s0 19 (upd (zA s0 19) (Int32.toNatClampNeg v1) ((zA s0 14) (Int32.toNatClampNeg v1)))) (v1 + 1) hP hD hS hf _ (lv_sub hl [1, 0] rfl)
set_option maxHeartbeats 4000000 in
set_option maxRecDepth 100000 in
theorem k_Mo_valley_h161 {p : Program} {l : Launch} {e : Env} {s : State} {m : MethodId} {args : Array Value} {below : List Frame} {meth : Method} {c : Code} {dC : Nat → ClassId} {dI : Nat → Nat → Nat} {cy : Nat → ClassId} {A : Nat → Prop} {o0 : Nat} {a0 : Nat → Nat} {N : Nat} {y : Int32 × zSt} (C0 : zCx p s m args meth c cX11_valley 2 (some .int) RX11 (dC, dI) cy) (hA : ∀ q, s.heap.size ≤ q → A q) : ∀ (n : Nat) (s0 : zSt) (v1 : Int32) {H : Heap} {locs : List Loc} (hP : va_P (dC, dI) vwCl (wd_Mo_valley cy o0 a0 (zI s0) (zL s0) (zA s0 0) (zB s0 10) (zA s0 11) (zA s0 12) (zA s0 13) (zA s0 14) (zA s0 15) (zA s0 16) (zA s0 17) (zA s0 18) (zA s0 19) (zA s0 20) (zA s0 21) (zA s0 33) (zA s0 62)) H) (hD : va_D A (wd_Mo_valley cy o0 a0 (zI s0) (zL s0) (zA s0 0) (zB s0 10) (zA s0 11) (zA s0 12) (zA s0 13) (zA s0 14) (zA s0 15) (zA s0 16) (zA s0 17) (zA s0 18) (zA s0 19) (zA s0 20) (zA s0 21) (zA s0 33) (zA s0 62))) (hS : va_S A s.heap H locs) (hf : Mo_valley_h161 N n s0 v1 = some y) (ls : Array Slot) (hl : lv_has ls 2 [(0, .ref o0), (1, .int v1)]), W p l e rm_Mo_valley s m args below meth c H locs 0 0 (MQ below (zQi y.1 (dC, dI) cy (wd_Mo_valley cy o0 a0 (zI y.2) (zL y.2) (zA y.2 0) (zB y.2 10) (zA y.2 11) (zA y.2 12) (zA y.2 13) (zA y.2 14) (zA y.2 15) (zA y.2 16) (zA y.2 17) (zA y.2 18) (zA y.2 19) (zA y.2 20) (zA y.2 21) (zA y.2 33) (zA y.2 62)) A) args s 0 0 A) (F0 m 161 ls []) := by
  intro n
  induction n with
  | zero => intro s0 v1 H locs hP hD hS hf; cases hf
  | succ n ih =>
    intro s0 v1 H locs hP hD hS hf ls hl
    have hf : Mo_valley_b161 N (Mo_valley_h161 N n) s0 v1 = some y := hf
    exact k_Mo_valley_b161 C0 s0 v1 (fun s0 v1 _ _ hP hD hS hf ls hl => ih s0 v1 hP hD hS hf ls hl) hA hP hD hS hf ls hl
set_option maxHeartbeats 4000000 in
set_option maxRecDepth 100000 in
theorem k_Mo_valley_b153 {p : Program} {l : Launch} {e : Env} {s : State} {m : MethodId} {args : Array Value} {below : List Frame} {meth : Method} {c : Code} {dC : Nat → ClassId} {dI : Nat → Nat → Nat} {cy : Nat → ClassId} {A : Nat → Prop} {o0 : Nat} {a0 : Nat → Nat} {N : Nat} {kh52 : zSt → Int32 → Option (Int32 × zSt)} {y : Int32 × zSt} (C0 : zCx p s m args meth c cX11_valley 2 (some .int) RX11 (dC, dI) cy) (s0 : zSt) (v1 : Int32) (hk52 : ∀ (s0 : zSt) (v1 : Int32) {H : Heap} {locs : List Loc} (_ : va_P (dC, dI) vwCl (wd_Mo_valley cy o0 a0 (zI s0) (zL s0) (zA s0 0) (zB s0 10) (zA s0 11) (zA s0 12) (zA s0 13) (zA s0 14) (zA s0 15) (zA s0 16) (zA s0 17) (zA s0 18) (zA s0 19) (zA s0 20) (zA s0 21) (zA s0 33) (zA s0 62)) H) (_ : va_D A (wd_Mo_valley cy o0 a0 (zI s0) (zL s0) (zA s0 0) (zB s0 10) (zA s0 11) (zA s0 12) (zA s0 13) (zA s0 14) (zA s0 15) (zA s0 16) (zA s0 17) (zA s0 18) (zA s0 19) (zA s0 20) (zA s0 21) (zA s0 33) (zA s0 62))) (_ : va_S A s.heap H locs) (_ : kh52 s0 v1 = some y) (ls : Array Slot) (_ : lv_has ls 2 [(0, .ref o0), (1, .int v1)]), W p l e rm_Mo_valley s m args below meth c H locs 0 0 (MQ below (zQi y.1 (dC, dI) cy (wd_Mo_valley cy o0 a0 (zI y.2) (zL y.2) (zA y.2 0) (zB y.2 10) (zA y.2 11) (zA y.2 12) (zA y.2 13) (zA y.2 14) (zA y.2 15) (zA y.2 16) (zA y.2 17) (zA y.2 18) (zA y.2 19) (zA y.2 20) (zA y.2 21) (zA y.2 33) (zA y.2 62)) A) args s 0 0 A) (F0 m 52 ls [])) (hA : ∀ q, s.heap.size ≤ q → A q) {H : Heap} {locs : List Loc} (hP : va_P (dC, dI) vwCl (wd_Mo_valley cy o0 a0 (zI s0) (zL s0) (zA s0 0) (zB s0 10) (zA s0 11) (zA s0 12) (zA s0 13) (zA s0 14) (zA s0 15) (zA s0 16) (zA s0 17) (zA s0 18) (zA s0 19) (zA s0 20) (zA s0 21) (zA s0 33) (zA s0 62)) H) (hD : va_D A (wd_Mo_valley cy o0 a0 (zI s0) (zL s0) (zA s0 0) (zB s0 10) (zA s0 11) (zA s0 12) (zA s0 13) (zA s0 14) (zA s0 15) (zA s0 16) (zA s0 17) (zA s0 18) (zA s0 19) (zA s0 20) (zA s0 21) (zA s0 33) (zA s0 62))) (hS : va_S A s.heap H locs) (hf : Mo_valley_b153 N kh52 s0 v1 = some y) (ls : Array Slot) (hl : lv_has ls 2 [(0, .ref o0), (1, .int v1)]) : W p l e rm_Mo_valley s m args below meth c H locs 0 0 (MQ below (zQi y.1 (dC, dI) cy (wd_Mo_valley cy o0 a0 (zI y.2) (zL y.2) (zA y.2 0) (zB y.2 10) (zA y.2 11) (zA y.2 12) (zA y.2 13) (zA y.2 14) (zA y.2 15) (zA y.2 16) (zA y.2 17) (zA y.2 18) (zA y.2 19) (zA y.2 20) (zA y.2 21) (zA y.2 33) (zA y.2 62)) A) args s 0 0 A) (F0 m 153 ls []) := by
  obtain ⟨hx, hb, hr, hml, hown, hT, hk, hK⟩ := id C0
  refine lv_iinc (v := v1 + 1) (lv' := [(1, .int (v1 + 1)), (0, .ref o0)]) hx hb dX11_valley_153 hl (k := 1) rfl rfl (by decide) rfl (fun ls hl => ?_)
  refine lv_goto (tgt := 52) hx hb dX11_valley_156 (by decide) ?_
  exact hk52 s0 (v1 + 1) hP hD hS hf _ (lv_sub hl [1, 0] rfl)
set_option maxHeartbeats 4000000 in
set_option maxRecDepth 100000 in
theorem k_Mo_valley_b143 {p : Program} {l : Launch} {e : Env} {s : State} {m : MethodId} {args : Array Value} {below : List Frame} {meth : Method} {c : Code} {dC : Nat → ClassId} {dI : Nat → Nat → Nat} {cy : Nat → ClassId} {A : Nat → Prop} {o0 : Nat} {a0 : Nat → Nat} {N : Nat} {kh52 : zSt → Int32 → Option (Int32 × zSt)} {y : Int32 × zSt} (C0 : zCx p s m args meth c cX11_valley 2 (some .int) RX11 (dC, dI) cy) (s0 : zSt) (v1 : Int32) (hk52 : ∀ (s0 : zSt) (v1 : Int32) {H : Heap} {locs : List Loc} (_ : va_P (dC, dI) vwCl (wd_Mo_valley cy o0 a0 (zI s0) (zL s0) (zA s0 0) (zB s0 10) (zA s0 11) (zA s0 12) (zA s0 13) (zA s0 14) (zA s0 15) (zA s0 16) (zA s0 17) (zA s0 18) (zA s0 19) (zA s0 20) (zA s0 21) (zA s0 33) (zA s0 62)) H) (_ : va_D A (wd_Mo_valley cy o0 a0 (zI s0) (zL s0) (zA s0 0) (zB s0 10) (zA s0 11) (zA s0 12) (zA s0 13) (zA s0 14) (zA s0 15) (zA s0 16) (zA s0 17) (zA s0 18) (zA s0 19) (zA s0 20) (zA s0 21) (zA s0 33) (zA s0 62))) (_ : va_S A s.heap H locs) (_ : kh52 s0 v1 = some y) (ls : Array Slot) (_ : lv_has ls 2 [(0, .ref o0), (1, .int v1)]), W p l e rm_Mo_valley s m args below meth c H locs 0 0 (MQ below (zQi y.1 (dC, dI) cy (wd_Mo_valley cy o0 a0 (zI y.2) (zL y.2) (zA y.2 0) (zB y.2 10) (zA y.2 11) (zA y.2 12) (zA y.2 13) (zA y.2 14) (zA y.2 15) (zA y.2 16) (zA y.2 17) (zA y.2 18) (zA y.2 19) (zA y.2 20) (zA y.2 21) (zA y.2 33) (zA y.2 62)) A) args s 0 0 A) (F0 m 52 ls [])) (hA : ∀ q, s.heap.size ≤ q → A q) {H : Heap} {locs : List Loc} (hP : va_P (dC, dI) vwCl (wd_Mo_valley cy o0 a0 (zI s0) (zL s0) (zA s0 0) (zB s0 10) (zA s0 11) (zA s0 12) (zA s0 13) (zA s0 14) (zA s0 15) (zA s0 16) (zA s0 17) (zA s0 18) (zA s0 19) (zA s0 20) (zA s0 21) (zA s0 33) (zA s0 62)) H) (hD : va_D A (wd_Mo_valley cy o0 a0 (zI s0) (zL s0) (zA s0 0) (zB s0 10) (zA s0 11) (zA s0 12) (zA s0 13) (zA s0 14) (zA s0 15) (zA s0 16) (zA s0 17) (zA s0 18) (zA s0 19) (zA s0 20) (zA s0 21) (zA s0 33) (zA s0 62))) (hS : va_S A s.heap H locs) (hf : Mo_valley_b143 N kh52 s0 v1 = some y) (ls : Array Slot) (hl : lv_has ls 2 [(0, .ref o0), (1, .int v1)]) : W p l e rm_Mo_valley s m args below meth c H locs 0 0 (MQ below (zQi y.1 (dC, dI) cy (wd_Mo_valley cy o0 a0 (zI y.2) (zL y.2) (zA y.2 0) (zB y.2 10) (zA y.2 11) (zA y.2 12) (zA y.2 13) (zA y.2 14) (zA y.2 15) (zA y.2 16) (zA y.2 17) (zA y.2 18) (zA y.2 19) (zA y.2 20) (zA y.2 21) (zA y.2 33) (zA y.2 62)) A) args s 0 0 A) (F0 m 143 ls []) := by
  obtain ⟨hx, hb, hr, hml, hown, hT, hk, hK⟩ := id C0
  refine lv_aload_n hx hb dX11_valley_143 rfl (lv_at hl 0 rfl) ?_
  refine lv_dup hx hb dX11_valley_144 rfl ?_
  refine zget (v := .int (zI s0 30)) hx hb hown hT hK hP inX11 rfl smX11 0 rfl 30 (by decide) tb_1032 rfl dX11_valley_145 ?_
  refine lv_iconst (v := 1) hx hb dX11_valley_148 (by decide) ?_
  refine lv_iadd hx hb dX11_valley_149 ?_
  refine zput (fs' := fs_Mo a0 (upd (zI s0) 30 ((zI s0 30) + 1)) (zL s0)) (ws' := (wd_Mo_valley cy o0 a0 (upd (zI s0) 30 ((zI s0 30) + 1)) (zL s0) (zA s0 0) (zB s0 10) (zA s0 11) (zA s0 12) (zA s0 13) (zA s0 14) (zA s0 15) (zA s0 16) (zA s0 17) (zA s0 18) (zA s0 19) (zA s0 20) (zA s0 21) (zA s0 33) (zA s0 62))) hx hb hown hT hK hP hD hS inX11 rfl smX11 tyX11_ok nmX11 0 rfl 30 (by decide) tb_1032 rfl rfl rfl (Nat.le_of_ble_eq_true rfl) rfl rfl dX11_valley_150 (fun H locs hP hD hS => ?_)
  exact k_Mo_valley_b153 C0 (zpI s0 30 ((zI s0 30) + 1)) v1 hk52 hA hP hD hS hf _ (lv_sub hl [0, 1] rfl)
set_option maxHeartbeats 4000000 in
set_option maxRecDepth 100000 in
theorem k_Mo_valley_b113 {p : Program} {l : Launch} {e : Env} {s : State} {m : MethodId} {args : Array Value} {below : List Frame} {meth : Method} {c : Code} {dC : Nat → ClassId} {dI : Nat → Nat → Nat} {cy : Nat → ClassId} {A : Nat → Prop} {o0 : Nat} {a0 : Nat → Nat} {N : Nat} {kh52 : zSt → Int32 → Option (Int32 × zSt)} {y : Int32 × zSt} (C0 : zCx p s m args meth c cX11_valley 2 (some .int) RX11 (dC, dI) cy) (s0 : zSt) (v1 : Int32) (hk52 : ∀ (s0 : zSt) (v1 : Int32) {H : Heap} {locs : List Loc} (_ : va_P (dC, dI) vwCl (wd_Mo_valley cy o0 a0 (zI s0) (zL s0) (zA s0 0) (zB s0 10) (zA s0 11) (zA s0 12) (zA s0 13) (zA s0 14) (zA s0 15) (zA s0 16) (zA s0 17) (zA s0 18) (zA s0 19) (zA s0 20) (zA s0 21) (zA s0 33) (zA s0 62)) H) (_ : va_D A (wd_Mo_valley cy o0 a0 (zI s0) (zL s0) (zA s0 0) (zB s0 10) (zA s0 11) (zA s0 12) (zA s0 13) (zA s0 14) (zA s0 15) (zA s0 16) (zA s0 17) (zA s0 18) (zA s0 19) (zA s0 20) (zA s0 21) (zA s0 33) (zA s0 62))) (_ : va_S A s.heap H locs) (_ : kh52 s0 v1 = some y) (ls : Array Slot) (_ : lv_has ls 2 [(0, .ref o0), (1, .int v1)]), W p l e rm_Mo_valley s m args below meth c H locs 0 0 (MQ below (zQi y.1 (dC, dI) cy (wd_Mo_valley cy o0 a0 (zI y.2) (zL y.2) (zA y.2 0) (zB y.2 10) (zA y.2 11) (zA y.2 12) (zA y.2 13) (zA y.2 14) (zA y.2 15) (zA y.2 16) (zA y.2 17) (zA y.2 18) (zA y.2 19) (zA y.2 20) (zA y.2 21) (zA y.2 33) (zA y.2 62)) A) args s 0 0 A) (F0 m 52 ls [])) (hA : ∀ q, s.heap.size ≤ q → A q) {H : Heap} {locs : List Loc} (hP : va_P (dC, dI) vwCl (wd_Mo_valley cy o0 a0 (zI s0) (zL s0) (zA s0 0) (zB s0 10) (zA s0 11) (zA s0 12) (zA s0 13) (zA s0 14) (zA s0 15) (zA s0 16) (zA s0 17) (zA s0 18) (zA s0 19) (zA s0 20) (zA s0 21) (zA s0 33) (zA s0 62)) H) (hD : va_D A (wd_Mo_valley cy o0 a0 (zI s0) (zL s0) (zA s0 0) (zB s0 10) (zA s0 11) (zA s0 12) (zA s0 13) (zA s0 14) (zA s0 15) (zA s0 16) (zA s0 17) (zA s0 18) (zA s0 19) (zA s0 20) (zA s0 21) (zA s0 33) (zA s0 62))) (hS : va_S A s.heap H locs) (hf : Mo_valley_b113 N kh52 s0 v1 = some y) (ls : Array Slot) (hl : lv_has ls 2 [(0, .ref o0), (1, .int v1)]) : W p l e rm_Mo_valley s m args below meth c H locs 0 0 (MQ below (zQi y.1 (dC, dI) cy (wd_Mo_valley cy o0 a0 (zI y.2) (zL y.2) (zA y.2 0) (zB y.2 10) (zA y.2 11) (zA y.2 12) (zA y.2 13) (zA y.2 14) (zA y.2 15) (zA y.2 16) (zA y.2 17) (zA y.2 18) (zA y.2 19) (zA y.2 20) (zA y.2 21) (zA y.2 33) (zA y.2 62)) A) args s 0 0 A) (F0 m 113 ls []) := by
  obtain ⟨hx, hb, hr, hml, hown, hT, hk, hK⟩ := id C0
  refine lv_iload_n hx hb dX11_valley_113 rfl (lv_at hl 1 rfl) ?_
  refine lv_aload_n hx hb dX11_valley_114 rfl (lv_at hl 0 rfl) ?_
  refine zget (v := .int (zI s0 29)) hx hb hown hT hK hP inX11 rfl smX11 0 rfl 29 (by decide) tb_1031 rfl dX11_valley_115 ?_
  refine lv_icmp_ge (tgt := 153) hx hb dX11_valley_118 (by decide) (fun hb_1 => ?_) (fun hb_1 => ?_)
  · have hf := zif_t hb_1 hf
    exact k_Mo_valley_b153 C0 s0 v1 hk52 hA hP hD hS hf _ (lv_sub hl [0, 1] rfl)
  · have hf := zif_f hb_1 hf
    refine lv_aload_n hx hb dX11_valley_121 rfl (lv_at hl 0 rfl) ?_
    refine zget (v := .ref (a0 18)) hx hb hown hT hK hP inX11 rfl smX11 0 rfl 18 (by decide) tb_1020 rfl dX11_valley_122 ?_
    refine lv_iload_n hx hb dX11_valley_125 rfl (lv_at hl 1 rfl) ?_
    obtain ⟨hi2, hf⟩ := zck_some hf
    refine va_iald hx hb hK.1 hP 10 0 rfl rfl hi2 dX11_valley_126 ?_
    refine lv_if_ge (tgt := 133) hx hb dX11_valley_127 (by decide) (fun hb_3 => ?_) (fun hb_3 => ?_)
    · have hf := zif_t hb_3 hf
      refine lv_aload_n hx hb dX11_valley_133 rfl (lv_at hl 0 rfl) ?_
      refine zget (v := .ref (a0 21)) hx hb hown hT hK hP inX11 rfl smX11 0 rfl 21 (by decide) tb_1023 rfl dX11_valley_134 ?_
      refine lv_aload_n hx hb dX11_valley_137 rfl (lv_at hl 0 rfl) ?_
      refine zget (v := .int (zI s0 30)) hx hb hown hT hK hP inX11 rfl smX11 0 rfl 30 (by decide) tb_1032 rfl dX11_valley_138 ?_
      refine lv_iload_n hx hb dX11_valley_141 rfl (lv_at hl 1 rfl) ?_
      obtain ⟨hi4, hf⟩ := zck_some hf
      refine zast (ws' := (wd_Mo_valley cy o0 a0 (zI s0) (zL s0) (zA s0 0) (zB s0 10) (zA s0 11) (zA s0 12) (zA s0 13) (zA s0 14) (zA s0 15) (zA s0 16) (zA s0 17) (zA s0 18) (zA s0 19) (zA s0 20) (upd (zA s0 21) (Int32.toNatClampNeg (zI s0 30)) v1) (zA s0 33) (zA s0 62))) hx hb hK hP hD hS 13 0 rfl rfl hi4 rfl dX11_valley_142 (fun H locs hP hD hS => ?_)
      exact k_Mo_valley_b143 C0 (zsA s0 21 (upd (zA s0 21) (Int32.toNatClampNeg (zI s0 30)) v1)) v1 hk52 hA hP hD hS hf _ (lv_sub hl [0, 1] rfl)
    · have hf := zif_f hb_3 hf
      refine lv_goto (tgt := 153) hx hb dX11_valley_130 (by decide) ?_
      exact k_Mo_valley_b153 C0 s0 v1 hk52 hA hP hD hS hf _ (lv_sub hl [0, 1] rfl)
set_option maxHeartbeats 4000000 in
set_option maxRecDepth 100000 in
theorem k_Mo_valley_b52 {p : Program} {l : Launch} {e : Env} {s : State} {m : MethodId} {args : Array Value} {below : List Frame} {meth : Method} {c : Code} {dC : Nat → ClassId} {dI : Nat → Nat → Nat} {cy : Nat → ClassId} {A : Nat → Prop} {o0 : Nat} {a0 : Nat → Nat} {N : Nat} {kh52 : zSt → Int32 → Option (Int32 × zSt)} {y : Int32 × zSt} (C0 : zCx p s m args meth c cX11_valley 2 (some .int) RX11 (dC, dI) cy) (s0 : zSt) (v1 : Int32) (hk52 : ∀ (s0 : zSt) (v1 : Int32) {H : Heap} {locs : List Loc} (_ : va_P (dC, dI) vwCl (wd_Mo_valley cy o0 a0 (zI s0) (zL s0) (zA s0 0) (zB s0 10) (zA s0 11) (zA s0 12) (zA s0 13) (zA s0 14) (zA s0 15) (zA s0 16) (zA s0 17) (zA s0 18) (zA s0 19) (zA s0 20) (zA s0 21) (zA s0 33) (zA s0 62)) H) (_ : va_D A (wd_Mo_valley cy o0 a0 (zI s0) (zL s0) (zA s0 0) (zB s0 10) (zA s0 11) (zA s0 12) (zA s0 13) (zA s0 14) (zA s0 15) (zA s0 16) (zA s0 17) (zA s0 18) (zA s0 19) (zA s0 20) (zA s0 21) (zA s0 33) (zA s0 62))) (_ : va_S A s.heap H locs) (_ : kh52 s0 v1 = some y) (ls : Array Slot) (_ : lv_has ls 2 [(0, .ref o0), (1, .int v1)]), W p l e rm_Mo_valley s m args below meth c H locs 0 0 (MQ below (zQi y.1 (dC, dI) cy (wd_Mo_valley cy o0 a0 (zI y.2) (zL y.2) (zA y.2 0) (zB y.2 10) (zA y.2 11) (zA y.2 12) (zA y.2 13) (zA y.2 14) (zA y.2 15) (zA y.2 16) (zA y.2 17) (zA y.2 18) (zA y.2 19) (zA y.2 20) (zA y.2 21) (zA y.2 33) (zA y.2 62)) A) args s 0 0 A) (F0 m 52 ls [])) (hA : ∀ q, s.heap.size ≤ q → A q) {H : Heap} {locs : List Loc} (hP : va_P (dC, dI) vwCl (wd_Mo_valley cy o0 a0 (zI s0) (zL s0) (zA s0 0) (zB s0 10) (zA s0 11) (zA s0 12) (zA s0 13) (zA s0 14) (zA s0 15) (zA s0 16) (zA s0 17) (zA s0 18) (zA s0 19) (zA s0 20) (zA s0 21) (zA s0 33) (zA s0 62)) H) (hD : va_D A (wd_Mo_valley cy o0 a0 (zI s0) (zL s0) (zA s0 0) (zB s0 10) (zA s0 11) (zA s0 12) (zA s0 13) (zA s0 14) (zA s0 15) (zA s0 16) (zA s0 17) (zA s0 18) (zA s0 19) (zA s0 20) (zA s0 21) (zA s0 33) (zA s0 62))) (hS : va_S A s.heap H locs) (hf : Mo_valley_b52 N kh52 s0 v1 = some y) (ls : Array Slot) (hl : lv_has ls 2 [(0, .ref o0), (1, .int v1)]) : W p l e rm_Mo_valley s m args below meth c H locs 0 0 (MQ below (zQi y.1 (dC, dI) cy (wd_Mo_valley cy o0 a0 (zI y.2) (zL y.2) (zA y.2 0) (zB y.2 10) (zA y.2 11) (zA y.2 12) (zA y.2 13) (zA y.2 14) (zA y.2 15) (zA y.2 16) (zA y.2 17) (zA y.2 18) (zA y.2 19) (zA y.2 20) (zA y.2 21) (zA y.2 33) (zA y.2 62)) A) args s 0 0 A) (F0 m 52 ls []) := by
  obtain ⟨hx, hb, hr, hml, hown, hT, hk, hK⟩ := id C0
  refine lv_iload_n hx hb dX11_valley_52 rfl (lv_at hl 1 rfl) ?_
  refine lv_bipush (v := 11) hx hb dX11_valley_53 (by decide) ?_
  refine lv_icmp_ge (tgt := 159) hx hb dX11_valley_55 (by decide) (fun hb_1 => ?_) (fun hb_1 => ?_)
  · have hf := zif_t hb_1 hf
    refine lv_iconst (v := 0) hx hb dX11_valley_159 (by decide) ?_
    refine lv_istore_n (lv' := [(1, .int 0), (0, .ref o0)]) hx hb dX11_valley_160 rfl hl (by decide) rfl (fun ls hl => ?_)
    exact k_Mo_valley_h161 C0   hA N s0 0 hP hD hS hf _ (lv_sub hl [1, 0] rfl)
  · have hf := zif_f hb_1 hf
    refine lv_aload_n hx hb dX11_valley_58 rfl (lv_at hl 0 rfl) ?_
    refine zget (v := .ref (a0 16)) hx hb hown hT hK hP inX11 rfl smX11 0 rfl 16 (by decide) tb_1018 rfl dX11_valley_59 ?_
    refine lv_iload_n hx hb dX11_valley_62 rfl (lv_at hl 1 rfl) ?_
    refine lv_aload_n hx hb dX11_valley_63 rfl (lv_at hl 0 rfl) ?_
    refine zget (v := .ref (a0 11)) hx hb hown hT hK hP inX11 rfl smX11 0 rfl 11 (by decide) tb_1013 rfl dX11_valley_64 ?_
    refine lv_iload_n hx hb dX11_valley_67 rfl (lv_at hl 1 rfl) ?_
    obtain ⟨hi2, hf⟩ := zck_some hf
    refine va_iald hx hb hK.1 hP 3 0 rfl rfl hi2 dX11_valley_68 ?_
    obtain ⟨hi3, hf⟩ := zck_some hf
    refine zast (ws' := (wd_Mo_valley cy o0 a0 (zI s0) (zL s0) (zA s0 0) (zB s0 10) (zA s0 11) (zA s0 12) (zA s0 13) (zA s0 14) (zA s0 15) (upd (zA s0 16) (Int32.toNatClampNeg v1) ((zA s0 11) (Int32.toNatClampNeg v1))) (zA s0 17) (zA s0 18) (zA s0 19) (zA s0 20) (zA s0 21) (zA s0 33) (zA s0 62))) hx hb hK hP hD hS 8 0 rfl rfl hi3 rfl dX11_valley_69 (fun H locs hP hD hS => ?_)
    refine lv_aload_n hx hb dX11_valley_70 rfl (lv_at hl 0 rfl) ?_
    refine zget (v := .ref (a0 17)) hx hb hown hT hK hP inX11 rfl smX11 0 rfl 17 (by decide) tb_1019 rfl dX11_valley_71 ?_
    refine lv_iload_n hx hb dX11_valley_74 rfl (lv_at hl 1 rfl) ?_
    refine lv_aload_n hx hb dX11_valley_75 rfl (lv_at hl 0 rfl) ?_
    refine zget (v := .ref (a0 12)) hx hb hown hT hK hP inX11 rfl smX11 0 rfl 12 (by decide) tb_1014 rfl dX11_valley_76 ?_
    refine lv_iload_n hx hb dX11_valley_79 rfl (lv_at hl 1 rfl) ?_
    obtain ⟨hi4, hf⟩ := zck_some hf
    refine va_iald hx hb hK.1 hP 4 0 rfl rfl hi4 dX11_valley_80 ?_
    obtain ⟨hi5, hf⟩ := zck_some hf
    refine zast (ws' := (wd_Mo_valley cy o0 a0 (zI s0) (zL s0) (zA s0 0) (zB s0 10) (zA s0 11) (zA s0 12) (zA s0 13) (zA s0 14) (zA s0 15) (upd (zA s0 16) (Int32.toNatClampNeg v1) ((zA s0 11) (Int32.toNatClampNeg v1))) (upd (zA s0 17) (Int32.toNatClampNeg v1) ((zA s0 12) (Int32.toNatClampNeg v1))) (zA s0 18) (zA s0 19) (zA s0 20) (zA s0 21) (zA s0 33) (zA s0 62))) hx hb hK hP hD hS 9 0 rfl rfl hi5 rfl dX11_valley_81 (fun H locs hP hD hS => ?_)
    refine lv_aload_n hx hb dX11_valley_82 rfl (lv_at hl 0 rfl) ?_
    refine zget (v := .ref (a0 18)) hx hb hown hT hK hP inX11 rfl smX11 0 rfl 18 (by decide) tb_1020 rfl dX11_valley_83 ?_
    refine lv_iload_n hx hb dX11_valley_86 rfl (lv_at hl 1 rfl) ?_
    refine lv_aload_n hx hb dX11_valley_87 rfl (lv_at hl 0 rfl) ?_
    refine zget (v := .ref (a0 13)) hx hb hown hT hK hP inX11 rfl smX11 0 rfl 13 (by decide) tb_1015 rfl dX11_valley_88 ?_
    refine lv_iload_n hx hb dX11_valley_91 rfl (lv_at hl 1 rfl) ?_
    obtain ⟨hi6, hf⟩ := zck_some hf
    refine va_iald hx hb hK.1 hP 5 0 rfl rfl hi6 dX11_valley_92 ?_
    obtain ⟨hi7, hf⟩ := zck_some hf
    refine zast (ws' := (wd_Mo_valley cy o0 a0 (zI s0) (zL s0) (zA s0 0) (zB s0 10) (zA s0 11) (zA s0 12) (zA s0 13) (zA s0 14) (zA s0 15) (upd (zA s0 16) (Int32.toNatClampNeg v1) ((zA s0 11) (Int32.toNatClampNeg v1))) (upd (zA s0 17) (Int32.toNatClampNeg v1) ((zA s0 12) (Int32.toNatClampNeg v1))) (upd (zA s0 18) (Int32.toNatClampNeg v1) ((zA s0 13) (Int32.toNatClampNeg v1))) (zA s0 19) (zA s0 20) (zA s0 21) (zA s0 33) (zA s0 62))) hx hb hK hP hD hS 10 0 rfl rfl hi7 rfl dX11_valley_93 (fun H locs hP hD hS => ?_)
    refine lv_aload_n hx hb dX11_valley_94 rfl (lv_at hl 0 rfl) ?_
    refine zget (v := .ref (a0 20)) hx hb hown hT hK hP inX11 rfl smX11 0 rfl 20 (by decide) tb_1022 rfl dX11_valley_95 ?_
    refine lv_iload_n hx hb dX11_valley_98 rfl (lv_at hl 1 rfl) ?_
    refine lv_aload_n hx hb dX11_valley_99 rfl (lv_at hl 0 rfl) ?_
    refine zget (v := .ref (a0 15)) hx hb hown hT hK hP inX11 rfl smX11 0 rfl 15 (by decide) tb_1017 rfl dX11_valley_100 ?_
    refine lv_iload_n hx hb dX11_valley_103 rfl (lv_at hl 1 rfl) ?_
    obtain ⟨hi8, hf⟩ := zck_some hf
    refine va_iald hx hb hK.1 hP 7 0 rfl rfl hi8 dX11_valley_104 ?_
    obtain ⟨hi9, hf⟩ := zck_some hf
    refine zast (ws' := (wd_Mo_valley cy o0 a0 (zI s0) (zL s0) (zA s0 0) (zB s0 10) (zA s0 11) (zA s0 12) (zA s0 13) (zA s0 14) (zA s0 15) (upd (zA s0 16) (Int32.toNatClampNeg v1) ((zA s0 11) (Int32.toNatClampNeg v1))) (upd (zA s0 17) (Int32.toNatClampNeg v1) ((zA s0 12) (Int32.toNatClampNeg v1))) (upd (zA s0 18) (Int32.toNatClampNeg v1) ((zA s0 13) (Int32.toNatClampNeg v1))) (zA s0 19) (upd (zA s0 20) (Int32.toNatClampNeg v1) ((zA s0 15) (Int32.toNatClampNeg v1))) (zA s0 21) (zA s0 33) (zA s0 62))) hx hb hK hP hD hS 12 0 rfl rfl hi9 rfl dX11_valley_105 (fun H locs hP hD hS => ?_)
    refine lv_aload_n hx hb dX11_valley_106 rfl (lv_at hl 0 rfl) ?_
    refine zget (v := .ref (a0 33)) hx hb hown hT hK hP inX11 rfl smX11 0 rfl 33 (by decide) tb_1035 rfl dX11_valley_107 ?_
    refine lv_iload_n hx hb dX11_valley_110 rfl (lv_at hl 1 rfl) ?_
    refine lv_iconst (v := 0) hx hb dX11_valley_111 (by decide) ?_
    obtain ⟨hi10, hf⟩ := zck_some hf
    refine zast (ws' := (wd_Mo_valley cy o0 a0 (zI s0) (zL s0) (zA s0 0) (zB s0 10) (zA s0 11) (zA s0 12) (zA s0 13) (zA s0 14) (zA s0 15) (upd (zA s0 16) (Int32.toNatClampNeg v1) ((zA s0 11) (Int32.toNatClampNeg v1))) (upd (zA s0 17) (Int32.toNatClampNeg v1) ((zA s0 12) (Int32.toNatClampNeg v1))) (upd (zA s0 18) (Int32.toNatClampNeg v1) ((zA s0 13) (Int32.toNatClampNeg v1))) (zA s0 19) (upd (zA s0 20) (Int32.toNatClampNeg v1) ((zA s0 15) (Int32.toNatClampNeg v1))) (zA s0 21) (upd (zA s0 33) (Int32.toNatClampNeg v1) 0) (zA s0 62))) hx hb hK hP hD hS 14 0 rfl rfl hi10 rfl dX11_valley_112 (fun H locs hP hD hS => ?_)
    exact k_Mo_valley_b113 C0 (zsA (zsA (zsA (zsA (zsA s0 16 (upd (zA s0 16) (Int32.toNatClampNeg v1) ((zA s0 11) (Int32.toNatClampNeg v1)))) 17 (upd (zA s0 17) (Int32.toNatClampNeg v1) ((zA s0 12) (Int32.toNatClampNeg v1)))) 18 (upd (zA s0 18) (Int32.toNatClampNeg v1) ((zA s0 13) (Int32.toNatClampNeg v1)))) 20 (upd (zA s0 20) (Int32.toNatClampNeg v1) ((zA s0 15) (Int32.toNatClampNeg v1)))) 33 (upd (zA s0 33) (Int32.toNatClampNeg v1) 0)) v1 hk52 hA hP hD hS hf _ (lv_sub hl [0, 1] rfl)
set_option maxHeartbeats 4000000 in
set_option maxRecDepth 100000 in
theorem k_Mo_valley_h52 {p : Program} {l : Launch} {e : Env} {s : State} {m : MethodId} {args : Array Value} {below : List Frame} {meth : Method} {c : Code} {dC : Nat → ClassId} {dI : Nat → Nat → Nat} {cy : Nat → ClassId} {A : Nat → Prop} {o0 : Nat} {a0 : Nat → Nat} {N : Nat} {y : Int32 × zSt} (C0 : zCx p s m args meth c cX11_valley 2 (some .int) RX11 (dC, dI) cy) (hA : ∀ q, s.heap.size ≤ q → A q) : ∀ (n : Nat) (s0 : zSt) (v1 : Int32) {H : Heap} {locs : List Loc} (hP : va_P (dC, dI) vwCl (wd_Mo_valley cy o0 a0 (zI s0) (zL s0) (zA s0 0) (zB s0 10) (zA s0 11) (zA s0 12) (zA s0 13) (zA s0 14) (zA s0 15) (zA s0 16) (zA s0 17) (zA s0 18) (zA s0 19) (zA s0 20) (zA s0 21) (zA s0 33) (zA s0 62)) H) (hD : va_D A (wd_Mo_valley cy o0 a0 (zI s0) (zL s0) (zA s0 0) (zB s0 10) (zA s0 11) (zA s0 12) (zA s0 13) (zA s0 14) (zA s0 15) (zA s0 16) (zA s0 17) (zA s0 18) (zA s0 19) (zA s0 20) (zA s0 21) (zA s0 33) (zA s0 62))) (hS : va_S A s.heap H locs) (hf : Mo_valley_h52 N n s0 v1 = some y) (ls : Array Slot) (hl : lv_has ls 2 [(0, .ref o0), (1, .int v1)]), W p l e rm_Mo_valley s m args below meth c H locs 0 0 (MQ below (zQi y.1 (dC, dI) cy (wd_Mo_valley cy o0 a0 (zI y.2) (zL y.2) (zA y.2 0) (zB y.2 10) (zA y.2 11) (zA y.2 12) (zA y.2 13) (zA y.2 14) (zA y.2 15) (zA y.2 16) (zA y.2 17) (zA y.2 18) (zA y.2 19) (zA y.2 20) (zA y.2 21) (zA y.2 33) (zA y.2 62)) A) args s 0 0 A) (F0 m 52 ls []) := by
  intro n
  induction n with
  | zero => intro s0 v1 H locs hP hD hS hf; cases hf
  | succ n ih =>
    intro s0 v1 H locs hP hD hS hf ls hl
    have hf : Mo_valley_b52 N (Mo_valley_h52 N n) s0 v1 = some y := hf
    exact k_Mo_valley_b52 C0 s0 v1 (fun s0 v1 _ _ hP hD hS hf ls hl => ih s0 v1 hP hD hS hf ls hl) hA hP hD hS hf ls hl
set_option maxHeartbeats 4000000 in
set_option maxRecDepth 100000 in
theorem k_Mo_valley_b0 {p : Program} {l : Launch} {e : Env} {s : State} {m : MethodId} {args : Array Value} {below : List Frame} {meth : Method} {c : Code} {dC : Nat → ClassId} {dI : Nat → Nat → Nat} {cy : Nat → ClassId} {A : Nat → Prop} {o0 : Nat} {a0 : Nat → Nat} {N : Nat} {y : Int32 × zSt} (C0 : zCx p s m args meth c cX11_valley 2 (some .int) RX11 (dC, dI) cy) (s0 : zSt) (hA : ∀ q, s.heap.size ≤ q → A q) {H : Heap} {locs : List Loc} (hP : va_P (dC, dI) vwCl (wd_Mo_valley cy o0 a0 (zI s0) (zL s0) (zA s0 0) (zB s0 10) (zA s0 11) (zA s0 12) (zA s0 13) (zA s0 14) (zA s0 15) (zA s0 16) (zA s0 17) (zA s0 18) (zA s0 19) (zA s0 20) (zA s0 21) (zA s0 33) (zA s0 62)) H) (hD : va_D A (wd_Mo_valley cy o0 a0 (zI s0) (zL s0) (zA s0 0) (zB s0 10) (zA s0 11) (zA s0 12) (zA s0 13) (zA s0 14) (zA s0 15) (zA s0 16) (zA s0 17) (zA s0 18) (zA s0 19) (zA s0 20) (zA s0 21) (zA s0 33) (zA s0 62))) (hS : va_S A s.heap H locs) (hf : Mo_valley_b0 N s0 = some y) (ls : Array Slot) (hl : lv_has ls 2 [(0, .ref o0)]) : W p l e rm_Mo_valley s m args below meth c H locs 0 0 (MQ below (zQi y.1 (dC, dI) cy (wd_Mo_valley cy o0 a0 (zI y.2) (zL y.2) (zA y.2 0) (zB y.2 10) (zA y.2 11) (zA y.2 12) (zA y.2 13) (zA y.2 14) (zA y.2 15) (zA y.2 16) (zA y.2 17) (zA y.2 18) (zA y.2 19) (zA y.2 20) (zA y.2 21) (zA y.2 33) (zA y.2 62)) A) args s 0 0 A) (F0 m 0 ls []) := by
  obtain ⟨hx, hb, hr, hml, hown, hT, hk, hK⟩ := id C0
  refine lv_aload_n hx hb dX11_valley_0 rfl (lv_at hl 0 rfl) ?_
  obtain ⟨z1, hc2, hf⟩ := zbd_some hf
  refine zwv (wr := [(a0 16, .inl (cy 0, 11, .inl (zA s0 16))), (a0 17, .inl (cy 0, 11, .inl (zA s0 17))), (a0 18, .inl (cy 0, 11, .inl (zA s0 18))), (a0 19, .inl (cy 0, 4, .inl (zA s0 19))), (a0 20, .inl (cy 0, 11, .inl (zA s0 20))), (a0 21, .inl (cy 0, 9, .inl (zA s0 21))), (a0 33, .inl (cy 0, 11, .inl (zA s0 33))), (a0 62, .inl (cy 3, 3, .inl (zA s0 62)))]) (ws' := (wd_Mo_valley cy o0 a0 (zI z1) (zL z1) (zA z1 0) (zB z1 10) (zA z1 11) (zA z1 12) (zA z1 13) (zA z1 14) (zA z1 15) (zA s0 16) (zA s0 17) (zA s0 18) (zA s0 19) (zA s0 20) (zA s0 21) (zA s0 33) (zA s0 62))) (zV (As := []) hx hb hml hown hT hl.1 (c_Mo_readAll o0 a0 s0 hc2) zY_Mo_readAll tb_1212 (zpRw hK hP hD [0, 1, 2, 3, 4, 5, 6, 7] (by decide) rfl 0 11 rfl rfl rfl rfl) rm_ok_Mo_valley_Mo_readAll rfl rfl (Nat.le_of_ble_eq_true rfl) dX11_valley_1 ⟨Nat.zero_le _, Nat.zero_le _⟩) hP hD hS hA [0, 1, 2, 3, 4, 5, 6, 7] [8, 9, 10, 11, 12, 13, 14, 15] [8, 9, 10, 11, 12, 13, 14, 15, 0, 1, 2, 3, 4, 5, 6, 7] rfl rfl (by decide) (by decide) (by decide) rfl rfl (fun H locs hP hD hS => ?_)
  refine lv_aload_n hx hb dX11_valley_4 rfl (lv_at hl 0 rfl) ?_
  refine zget (v := .int (zI z1 2)) hx hb hown hT hK hP inX11 rfl smX11 0 rfl 2 (by decide) tb_1004 rfl dX11_valley_5 ?_
  refine lv_if_le (tgt := 13) hx hb dX11_valley_8 (by decide) (fun hb_3 => ?_) (fun hb_3 => ?_)
  · have hf := zif_t hb_3 hf
    refine lv_aload_n hx hb dX11_valley_13 rfl (lv_at hl 0 rfl) ?_
    refine lv_aload_n hx hb dX11_valley_14 rfl (lv_at hl 0 rfl) ?_
    refine zget (v := .int (zI z1 22)) hx hb hown hT hK hP inX11 rfl smX11 0 rfl 22 (by decide) tb_1024 rfl dX11_valley_15 ?_
    refine zput (fs' := fs_Mo a0 (upd (zI z1) 28 (zI z1 22)) (zL z1)) (ws' := (wd_Mo_valley cy o0 a0 (upd (zI z1) 28 (zI z1 22)) (zL z1) (zA z1 0) (zB z1 10) (zA z1 11) (zA z1 12) (zA z1 13) (zA z1 14) (zA z1 15) (zA s0 16) (zA s0 17) (zA s0 18) (zA s0 19) (zA s0 20) (zA s0 21) (zA s0 33) (zA s0 62))) hx hb hown hT hK hP hD hS inX11 rfl smX11 tyX11_ok nmX11 0 rfl 28 (by decide) tb_1030 rfl rfl rfl (Nat.le_of_ble_eq_true rfl) rfl rfl dX11_valley_18 (fun H locs hP hD hS => ?_)
    refine lv_aload_n hx hb dX11_valley_21 rfl (lv_at hl 0 rfl) ?_
    refine lv_aload_n hx hb dX11_valley_22 rfl (lv_at hl 0 rfl) ?_
    refine zget (v := .int (zI z1 23)) hx hb hown hT hK hP inX11 rfl smX11 0 rfl 23 (by decide) tb_1025 rfl dX11_valley_23 ?_
    refine zput (fs' := fs_Mo a0 (upd (upd (zI z1) 28 (zI z1 22)) 29 (zI z1 23)) (zL z1)) (ws' := (wd_Mo_valley cy o0 a0 (upd (upd (zI z1) 28 (zI z1 22)) 29 (zI z1 23)) (zL z1) (zA z1 0) (zB z1 10) (zA z1 11) (zA z1 12) (zA z1 13) (zA z1 14) (zA z1 15) (zA s0 16) (zA s0 17) (zA s0 18) (zA s0 19) (zA s0 20) (zA s0 21) (zA s0 33) (zA s0 62))) hx hb hown hT hK hP hD hS inX11 rfl smX11 tyX11_ok nmX11 0 rfl 29 (by decide) tb_1031 rfl rfl rfl (Nat.le_of_ble_eq_true rfl) rfl rfl dX11_valley_26 (fun H locs hP hD hS => ?_)
    refine lv_aload_n hx hb dX11_valley_29 rfl (lv_at hl 0 rfl) ?_
    refine lv_aload_n hx hb dX11_valley_30 rfl (lv_at hl 0 rfl) ?_
    refine zget (v := .int (zI z1 25)) hx hb hown hT hK hP inX11 rfl smX11 0 rfl 25 (by decide) tb_1027 rfl dX11_valley_31 ?_
    refine zput (fs' := fs_Mo a0 (upd (upd (upd (zI z1) 28 (zI z1 22)) 29 (zI z1 23)) 31 (zI z1 25)) (zL z1)) (ws' := (wd_Mo_valley cy o0 a0 (upd (upd (upd (zI z1) 28 (zI z1 22)) 29 (zI z1 23)) 31 (zI z1 25)) (zL z1) (zA z1 0) (zB z1 10) (zA z1 11) (zA z1 12) (zA z1 13) (zA z1 14) (zA z1 15) (zA s0 16) (zA s0 17) (zA s0 18) (zA s0 19) (zA s0 20) (zA s0 21) (zA s0 33) (zA s0 62))) hx hb hown hT hK hP hD hS inX11 rfl smX11 tyX11_ok nmX11 0 rfl 31 (by decide) tb_1033 rfl rfl rfl (Nat.le_of_ble_eq_true rfl) rfl rfl dX11_valley_34 (fun H locs hP hD hS => ?_)
    refine lv_aload_n hx hb dX11_valley_37 rfl (lv_at hl 0 rfl) ?_
    refine lv_aload_n hx hb dX11_valley_38 rfl (lv_at hl 0 rfl) ?_
    refine zget (v := .int (zI z1 26)) hx hb hown hT hK hP inX11 rfl smX11 0 rfl 26 (by decide) tb_1028 rfl dX11_valley_39 ?_
    refine zput (fs' := fs_Mo a0 (upd (upd (upd (upd (zI z1) 28 (zI z1 22)) 29 (zI z1 23)) 31 (zI z1 25)) 32 (zI z1 26)) (zL z1)) (ws' := (wd_Mo_valley cy o0 a0 (upd (upd (upd (upd (zI z1) 28 (zI z1 22)) 29 (zI z1 23)) 31 (zI z1 25)) 32 (zI z1 26)) (zL z1) (zA z1 0) (zB z1 10) (zA z1 11) (zA z1 12) (zA z1 13) (zA z1 14) (zA z1 15) (zA s0 16) (zA s0 17) (zA s0 18) (zA s0 19) (zA s0 20) (zA s0 21) (zA s0 33) (zA s0 62))) hx hb hown hT hK hP hD hS inX11 rfl smX11 tyX11_ok nmX11 0 rfl 32 (by decide) tb_1034 rfl rfl rfl (Nat.le_of_ble_eq_true rfl) rfl rfl dX11_valley_42 (fun H locs hP hD hS => ?_)
    refine lv_aload_n hx hb dX11_valley_45 rfl (lv_at hl 0 rfl) ?_
    refine lv_iconst (v := 0) hx hb dX11_valley_46 (by decide) ?_
    refine zput (fs' := fs_Mo a0 (upd (upd (upd (upd (upd (zI z1) 28 (zI z1 22)) 29 (zI z1 23)) 31 (zI z1 25)) 32 (zI z1 26)) 30 0) (zL z1)) (ws' := (wd_Mo_valley cy o0 a0 (upd (upd (upd (upd (upd (zI z1) 28 (zI z1 22)) 29 (zI z1 23)) 31 (zI z1 25)) 32 (zI z1 26)) 30 0) (zL z1) (zA z1 0) (zB z1 10) (zA z1 11) (zA z1 12) (zA z1 13) (zA z1 14) (zA z1 15) (zA s0 16) (zA s0 17) (zA s0 18) (zA s0 19) (zA s0 20) (zA s0 21) (zA s0 33) (zA s0 62))) hx hb hown hT hK hP hD hS inX11 rfl smX11 tyX11_ok nmX11 0 rfl 30 (by decide) tb_1032 rfl rfl rfl (Nat.le_of_ble_eq_true rfl) rfl rfl dX11_valley_47 (fun H locs hP hD hS => ?_)
    refine lv_iconst (v := 0) hx hb dX11_valley_50 (by decide) ?_
    refine lv_istore_n (lv' := [(1, .int 0), (0, .ref o0)]) hx hb dX11_valley_51 rfl hl (by decide) rfl (fun ls hl => ?_)
    exact k_Mo_valley_h52 C0   hA N (zpI (zpI (zpI (zpI (zpI (zmg [16,17,18,19,20,21,33,62] z1 s0) 28 (zI z1 22)) 29 (zI z1 23)) 31 (zI z1 25)) 32 (zI z1 26)) 30 0) 0 hP hD hS hf _ (lv_sub hl [1, 0] rfl)
  · have hf := zif_f hb_3 hf
    refine lv_iconst (v := (-1)) hx hb dX11_valley_11 (by decide) ?_
    cases hf
    exact zewi hx hb hr hk hK hP hD hS dX11_valley_12
set_option maxHeartbeats 4000000 in
set_option maxRecDepth 100000 in
theorem c_Mo_valley {l : Launch} {dC : Nat → ClassId} {dI : Nat → Nat → Nat} {cy : Nat → ClassId} {sz : Nat} {N : Nat} (o0 : Nat) (a0 : Nat → Nat) (s0 : zSt) {y : Int32 × zSt} (hf : Mo_valley N s0 = some y) : Met l yX11_valley (.code yX11_valley cX11_valley 2 (some .int) :: zt) rm_Mo_valley (va_Pc [.ref o0] (zPre (dC, dI) cy (wd_Mo_valley cy o0 a0 (zI s0) (zL s0) (zA s0 0) (zB s0 10) (zA s0 11) (zA s0 12) (zA s0 13) (zA s0 14) (zA s0 15) (zA s0 16) (zA s0 17) (zA s0 18) (zA s0 19) (zA s0 20) (zA s0 21) (zA s0 33) (zA s0 62)) sz)) (zQi y.1 (dC, dI) cy (wd_Mo_valley cy o0 a0 (zI y.2) (zL y.2) (zA y.2 0) (zB y.2 10) (zA y.2 11) (zA y.2 12) (zA y.2 13) (zA y.2 14) (zA y.2 15) (zA y.2 16) (zA y.2 17) (zA y.2 18) (zA y.2 19) (zA y.2 20) (zA y.2 21) (zA y.2 33) (zA y.2 62)) (va_A (wd_Mo_valley cy o0 a0 (zI s0) (zL s0) (zA s0 0) (zB s0 10) (zA s0 11) (zA s0 12) (zA s0 13) (zA s0 14) (zA s0 15) (zA s0 16) (zA s0 17) (zA s0 18) (zA s0 19) (zA s0 20) (zA s0 21) (zA s0 33) (zA s0 62)) sz)) 0 0 (va_A (wd_Mo_valley cy o0 a0 (zI s0) (zL s0) (zA s0 0) (zB s0 10) (zA s0 11) (zA s0 12) (zA s0 13) (zA s0 14) (zA s0 15) (zA s0 16) (zA s0 17) (zA s0 18) (zA s0 19) (zA s0 20) (zA s0 21) (zA s0 33) (zA s0 62)) sz) :=
  zentW (Qw := fun A => (zQi y.1 (dC, dI) cy (wd_Mo_valley cy o0 a0 (zI y.2) (zL y.2) (zA y.2 0) (zB y.2 10) (zA y.2 11) (zA y.2 12) (zA y.2 13) (zA y.2 14) (zA y.2 15) (zA y.2 16) (zA y.2 17) (zA y.2 18) (zA y.2 19) (zA y.2 20) (zA y.2 21) (zA y.2 33) (zA y.2 62)) A)) (by decide +kernel) (Nat.le_of_ble_eq_true rfl) (fun p e s m below meth c A C0 hA hP hD hS ls hl => k_Mo_valley_b0 C0 s0 hA hP hD hS hf ls hl)
def wd_Mo_fault (cy : Nat → ClassId) (o0 : Nat) (a0 : Nat → Nat) (g0 : Nat → Int32) (h0 : Nat → Int64) : va_W := [(o0, .inr (11, fs_Mo a0 g0 h0))]
def rm_Mo_fault : Room := { frames := 1, cells := 0, slots := 0, locals := 40 }
set_option maxHeartbeats 4000000 in
set_option maxRecDepth 100000 in
theorem k_Mo_fault_b0 {p : Program} {l : Launch} {e : Env} {s : State} {m : MethodId} {args : Array Value} {below : List Frame} {meth : Method} {c : Code} {dC : Nat → ClassId} {dI : Nat → Nat → Nat} {cy : Nat → ClassId} {o0 : Nat} {a0 : Nat → Nat} {N : Nat} {y : Int32} (C0 : zCx p s m args meth c cX11_fault 2 (some .int) RX11 (dC, dI) cy) (s0 : zSt) (v1 : Int32) (hP : va_P (dC, dI) vwCl (wd_Mo_fault cy o0 a0 (zI s0) (zL s0)) s.heap) (hf : Mo_fault_b0 N s0 v1 = some y) (ls : Array Slot) (hl : lv_has ls 2 [(0, .ref o0), (1, .int v1)]) : W p l e rm_Mo_fault s m args below meth c s.heap [] 0 0 (MQ below (zSi y) args s 0 0 (fun _ => False)) (F0 m 0 ls []) := by
  obtain ⟨hx, hb, hr, hml, hown, hT, hk, hK⟩ := id C0
  refine lv_iload_n hx hb dX11_fault_0 rfl (lv_at hl 1 rfl) ?_
  refine lv_if_ne (tgt := 11) hx hb dX11_fault_1 (by decide) (fun hb_1 => ?_) (fun hb_1 => ?_)
  · have hf := zif_f hb_1 hf
    refine lv_iload_n hx hb dX11_fault_11 rfl (lv_at hl 1 rfl) ?_
    refine lv_iconst (v := 1) hx hb dX11_fault_12 (by decide) ?_
    refine lv_icmp_ne (tgt := 23) hx hb dX11_fault_13 (by decide) (fun hb_2 => ?_) (fun hb_2 => ?_)
    · have hf := zif_f hb_2 hf
      refine lv_iconst (v := (-1)) hx hb dX11_fault_23 (by decide) ?_
      cases hf
      exact zeri hx hb hr hk dX11_fault_24
    · have hf := zif_t hb_2 hf
      refine lv_aload_n hx hb dX11_fault_16 rfl (lv_at hl 0 rfl) ?_
      refine zget (v := .int (zI s0 3)) hx hb hown hT hK hP inX11 rfl smX11 0 rfl 3 (by decide) tb_1005 rfl dX11_fault_17 ?_
      refine lv_goto (tgt := 24) hx hb dX11_fault_20 (by decide) ?_
      cases hf
      exact zeri hx hb hr hk dX11_fault_24
  · have hf := zif_t hb_1 hf
    refine lv_aload_n hx hb dX11_fault_4 rfl (lv_at hl 0 rfl) ?_
    refine zget (v := .int (zI s0 2)) hx hb hown hT hK hP inX11 rfl smX11 0 rfl 2 (by decide) tb_1004 rfl dX11_fault_5 ?_
    refine lv_goto (tgt := 24) hx hb dX11_fault_8 (by decide) ?_
    cases hf
    exact zeri hx hb hr hk dX11_fault_24
set_option maxHeartbeats 4000000 in
set_option maxRecDepth 100000 in
theorem c_Mo_fault {l : Launch} {dC : Nat → ClassId} {dI : Nat → Nat → Nat} {cy : Nat → ClassId} {N : Nat} (o0 : Nat) (a0 : Nat → Nat) (s0 : zSt) (v1 : Int32) {y : Int32} (hf : Mo_fault N s0 v1 = some y) : Met l yX11_fault (.code yX11_fault cX11_fault 2 (some .int) :: zt) rm_Mo_fault (va_Pc [.ref o0, .int v1] (zRd (dC, dI) cy (wd_Mo_fault cy o0 a0 (zI s0) (zL s0)))) (zSi y) 0 0 (fun _ => False) :=
  zentR (by decide +kernel) (Nat.le_of_ble_eq_true rfl) (fun p e s m below meth c C0 hP ls hl => k_Mo_fault_b0 C0 s0 v1 hP hf ls hl)
def wd_Mo_isIn (cy : Nat → ClassId) : va_W := []
def rm_Mo_isIn : Room := { frames := 1, cells := 0, slots := 0, locals := 40 }
set_option maxHeartbeats 4000000 in
set_option maxRecDepth 100000 in
theorem k_Mo_isIn_b0 {p : Program} {l : Launch} {e : Env} {s : State} {m : MethodId} {args : Array Value} {below : List Frame} {meth : Method} {c : Code} {dC : Nat → ClassId} {dI : Nat → Nat → Nat} {cy : Nat → ClassId} {N : Nat} {y : Int32} (C0 : zCx p s m args meth c cX11_isIn 3 (some .boolean) RX11 (dC, dI) cy) (v0 : Int32) (v1 : Int32) (v2 : Int32) (hP : va_P (dC, dI) vwCl (wd_Mo_isIn cy) s.heap) (hf : Mo_isIn_b0 N v0 v1 v2 = some y) (ls : Array Slot) (hl : lv_has ls 3 [(0, .int v0), (1, .int v1), (2, .int v2)]) : W p l e rm_Mo_isIn s m args below meth c s.heap [] 0 0 (MQ below (zSi y) args s 0 0 (fun _ => False)) (F0 m 0 ls []) := by
  obtain ⟨hx, hb, hr, hml, hown, hT, hk, hK⟩ := id C0
  refine lv_iload_n hx hb dX11_isIn_0 rfl (lv_at hl 0 rfl) ?_
  refine lv_iload_n hx hb dX11_isIn_1 rfl (lv_at hl 1 rfl) ?_
  refine lv_icmp_lt (tgt := 14) hx hb dX11_isIn_2 (by decide) (fun hb_1 => ?_) (fun hb_1 => ?_)
  · have hf := zif_t hb_1 hf
    refine lv_iconst (v := 0) hx hb dX11_isIn_14 (by decide) ?_
    cases hf
    exact zerz hx hb hr hk (Or.inl rfl) dX11_isIn_15
  · have hf := zif_f hb_1 hf
    refine lv_iload_n hx hb dX11_isIn_5 rfl (lv_at hl 0 rfl) ?_
    refine lv_iload_n hx hb dX11_isIn_6 rfl (lv_at hl 2 rfl) ?_
    refine lv_icmp_gt (tgt := 14) hx hb dX11_isIn_7 (by decide) (fun hb_2 => ?_) (fun hb_2 => ?_)
    · have hf := zif_t hb_2 hf
      refine lv_iconst (v := 0) hx hb dX11_isIn_14 (by decide) ?_
      cases hf
      exact zerz hx hb hr hk (Or.inl rfl) dX11_isIn_15
    · have hf := zif_f hb_2 hf
      refine lv_iconst (v := 1) hx hb dX11_isIn_10 (by decide) ?_
      refine lv_goto (tgt := 15) hx hb dX11_isIn_11 (by decide) ?_
      cases hf
      exact zerz hx hb hr hk (Or.inr rfl) dX11_isIn_15
set_option maxHeartbeats 4000000 in
set_option maxRecDepth 100000 in
theorem c_Mo_isIn {l : Launch} {dC : Nat → ClassId} {dI : Nat → Nat → Nat} {cy : Nat → ClassId} {N : Nat} (v0 : Int32) (v1 : Int32) (v2 : Int32) {y : Int32} (hf : Mo_isIn N v0 v1 v2 = some y) : Met l yX11_isIn (.code yX11_isIn cX11_isIn 3 (some .boolean) :: zt) rm_Mo_isIn (va_Pc [.int v0, .int v1, .int v2] (zRd (dC, dI) cy (wd_Mo_isIn cy))) (zSi y) 0 0 (fun _ => False) :=
  zentR (by decide +kernel) (Nat.le_of_ble_eq_true rfl) (fun p e s m below meth c C0 hP ls hl => k_Mo_isIn_b0 C0 v0 v1 v2 hP hf ls hl)
def wd_Mo_isBell (cy : Nat → ClassId) (o0 : Nat) (a0 : Nat → Nat) (g0 : Nat → Int32) (h0 : Nat → Int64) : va_W := [(o0, .inr (11, fs_Mo a0 g0 h0))]
def rm_Mo_isBell : Room := { frames := 2, cells := 0, slots := 0, locals := 62 }
theorem rm_ok_Mo_isBell_Mo_isIn : rm_Mo_isIn.cells = 0 ∧ rm_Mo_isIn.slots = 0 ∧ rm_Mo_isIn.frames + 1 ≤ rm_Mo_isBell.frames ∧ 8 + (3 + 11) + rm_Mo_isIn.locals ≤ rm_Mo_isBell.locals := by decide
set_option maxHeartbeats 4000000 in
set_option maxRecDepth 100000 in
theorem k_Mo_isBell_b0 {p : Program} {l : Launch} {e : Env} {s : State} {m : MethodId} {args : Array Value} {below : List Frame} {meth : Method} {c : Code} {dC : Nat → ClassId} {dI : Nat → Nat → Nat} {cy : Nat → ClassId} {o0 : Nat} {a0 : Nat → Nat} {N : Nat} {y : Int32} (C0 : zCx p s m args meth c cX11_isBell 2 (some .boolean) RX11 (dC, dI) cy) (s0 : zSt) (v1 : Int32) (hP : va_P (dC, dI) vwCl (wd_Mo_isBell cy o0 a0 (zI s0) (zL s0)) s.heap) (hf : Mo_isBell_b0 N s0 v1 = some y) (ls : Array Slot) (hl : lv_has ls 2 [(0, .ref o0), (1, .int v1)]) : W p l e rm_Mo_isBell s m args below meth c s.heap [] 0 0 (MQ below (zSi y) args s 0 0 (fun _ => False)) (F0 m 0 ls []) := by
  obtain ⟨hx, hb, hr, hml, hown, hT, hk, hK⟩ := id C0
  refine lv_iload_n hx hb dX11_isBell_0 rfl (lv_at hl 1 rfl) ?_
  refine lv_iconst (v := 0) hx hb dX11_isBell_1 (by decide) ?_
  refine lv_aload_n hx hb dX11_isBell_2 rfl (lv_at hl 0 rfl) ?_
  refine zget (v := .int (zI s0 29)) hx hb hown hT hK hP inX11 rfl smX11 0 rfl 29 (by decide) tb_1031 rfl dX11_isBell_3 ?_
  refine lv_iconst (v := 1) hx hb dX11_isBell_6 (by decide) ?_
  refine lv_isub hx hb dX11_isBell_7 ?_
  obtain ⟨z1, hc2, hf⟩ := zbd_some hf
  refine zri (zS (As := [.int v1, .int 0, .int ((zI s0 29) - 1)]) hx hb hml hown hT hl.1 (c_Mo_isIn v1 0 ((zI s0 29) - 1) hc2) zY_Mo_isIn tb_1319 (zpS hK hP [] rfl) rm_ok_Mo_isBell_Mo_isIn rfl rfl (Nat.le_of_ble_eq_true rfl) dX11_isBell_8 ⟨Nat.zero_le _, Nat.zero_le _⟩) ?_
  obtain ⟨hq3, hf⟩ := zcb_some hf
  cases hf
  exact zerz hx hb hr hk hq3 dX11_isBell_11
set_option maxHeartbeats 4000000 in
set_option maxRecDepth 100000 in
theorem c_Mo_isBell {l : Launch} {dC : Nat → ClassId} {dI : Nat → Nat → Nat} {cy : Nat → ClassId} {N : Nat} (o0 : Nat) (a0 : Nat → Nat) (s0 : zSt) (v1 : Int32) {y : Int32} (hf : Mo_isBell N s0 v1 = some y) : Met l yX11_isBell (.code yX11_isBell cX11_isBell 2 (some .boolean) :: zt) rm_Mo_isBell (va_Pc [.ref o0, .int v1] (zRd (dC, dI) cy (wd_Mo_isBell cy o0 a0 (zI s0) (zL s0)))) (zSi y) 0 0 (fun _ => False) :=
  zentR (by decide +kernel) (Nat.le_of_ble_eq_true rfl) (fun p e s m below meth c C0 hP ls hl => k_Mo_isBell_b0 C0 s0 v1 hP hf ls hl)
def wd_Mo_isEar (cy : Nat → ClassId) (o0 : Nat) (a0 : Nat → Nat) (g0 : Nat → Int32) (h0 : Nat → Int64) : va_W := [(o0, .inr (11, fs_Mo a0 g0 h0))]
def rm_Mo_isEar : Room := { frames := 2, cells := 0, slots := 0, locals := 62 }
theorem rm_ok_Mo_isEar_Mo_isIn : rm_Mo_isIn.cells = 0 ∧ rm_Mo_isIn.slots = 0 ∧ rm_Mo_isIn.frames + 1 ≤ rm_Mo_isEar.frames ∧ 8 + (3 + 11) + rm_Mo_isIn.locals ≤ rm_Mo_isEar.locals := by decide
set_option maxHeartbeats 4000000 in
set_option maxRecDepth 100000 in
theorem k_Mo_isEar_b0 {p : Program} {l : Launch} {e : Env} {s : State} {m : MethodId} {args : Array Value} {below : List Frame} {meth : Method} {c : Code} {dC : Nat → ClassId} {dI : Nat → Nat → Nat} {cy : Nat → ClassId} {o0 : Nat} {a0 : Nat → Nat} {N : Nat} {y : Int32} (C0 : zCx p s m args meth c cX11_isEar 2 (some .boolean) RX11 (dC, dI) cy) (s0 : zSt) (v1 : Int32) (hP : va_P (dC, dI) vwCl (wd_Mo_isEar cy o0 a0 (zI s0) (zL s0)) s.heap) (hf : Mo_isEar_b0 N s0 v1 = some y) (ls : Array Slot) (hl : lv_has ls 2 [(0, .ref o0), (1, .int v1)]) : W p l e rm_Mo_isEar s m args below meth c s.heap [] 0 0 (MQ below (zSi y) args s 0 0 (fun _ => False)) (F0 m 0 ls []) := by
  obtain ⟨hx, hb, hr, hml, hown, hT, hk, hK⟩ := id C0
  refine lv_iload_n hx hb dX11_isEar_0 rfl (lv_at hl 1 rfl) ?_
  refine lv_iconst (v := 0) hx hb dX11_isEar_1 (by decide) ?_
  refine lv_aload_n hx hb dX11_isEar_2 rfl (lv_at hl 0 rfl) ?_
  refine zget (v := .int (zI s0 32)) hx hb hown hT hK hP inX11 rfl smX11 0 rfl 32 (by decide) tb_1034 rfl dX11_isEar_3 ?_
  refine lv_iconst (v := 1) hx hb dX11_isEar_6 (by decide) ?_
  refine lv_isub hx hb dX11_isEar_7 ?_
  obtain ⟨z1, hc2, hf⟩ := zbd_some hf
  refine zri (zS (As := [.int v1, .int 0, .int ((zI s0 32) - 1)]) hx hb hml hown hT hl.1 (c_Mo_isIn v1 0 ((zI s0 32) - 1) hc2) zY_Mo_isIn tb_1319 (zpS hK hP [] rfl) rm_ok_Mo_isEar_Mo_isIn rfl rfl (Nat.le_of_ble_eq_true rfl) dX11_isEar_8 ⟨Nat.zero_le _, Nat.zero_le _⟩) ?_
  obtain ⟨hq3, hf⟩ := zcb_some hf
  cases hf
  exact zerz hx hb hr hk hq3 dX11_isEar_11
set_option maxHeartbeats 4000000 in
set_option maxRecDepth 100000 in
theorem c_Mo_isEar {l : Launch} {dC : Nat → ClassId} {dI : Nat → Nat → Nat} {cy : Nat → ClassId} {N : Nat} (o0 : Nat) (a0 : Nat → Nat) (s0 : zSt) (v1 : Int32) {y : Int32} (hf : Mo_isEar N s0 v1 = some y) : Met l yX11_isEar (.code yX11_isEar cX11_isEar 2 (some .boolean) :: zt) rm_Mo_isEar (va_Pc [.ref o0, .int v1] (zRd (dC, dI) cy (wd_Mo_isEar cy o0 a0 (zI s0) (zL s0)))) (zSi y) 0 0 (fun _ => False) :=
  zentR (by decide +kernel) (Nat.le_of_ble_eq_true rfl) (fun p e s m below meth c C0 hP ls hl => k_Mo_isEar_b0 C0 s0 v1 hP hf ls hl)
def wd_Mo_modulo (cy : Nat → ClassId) : va_W := []
def rm_Mo_modulo : Room := { frames := 1, cells := 0, slots := 0, locals := 40 }
set_option maxHeartbeats 4000000 in
set_option maxRecDepth 100000 in
theorem k_Mo_modulo_b0 {p : Program} {l : Launch} {e : Env} {s : State} {m : MethodId} {args : Array Value} {below : List Frame} {meth : Method} {c : Code} {dC : Nat → ClassId} {dI : Nat → Nat → Nat} {cy : Nat → ClassId} {N : Nat} {y : Int32} (C0 : zCx p s m args meth c cX11_modulo 1 (some .int) RX11 (dC, dI) cy) (v0 : Int32) (hP : va_P (dC, dI) vwCl (wd_Mo_modulo cy) s.heap) (hf : Mo_modulo_b0 N v0 = some y) (ls : Array Slot) (hl : lv_has ls 1 [(0, .int v0)]) : W p l e rm_Mo_modulo s m args below meth c s.heap [] 0 0 (MQ below (zSi y) args s 0 0 (fun _ => False)) (F0 m 0 ls []) := by
  obtain ⟨hx, hb, hr, hml, hown, hT, hk, hK⟩ := id C0
  refine lv_iload_n hx hb dX11_modulo_0 rfl (lv_at hl 0 rfl) ?_
  refine lv_bipush (v := 12) hx hb dX11_modulo_1 (by decide) ?_
  refine lv_irem hx hb dX11_modulo_3 (by decide) ?_
  refine lv_bipush (v := 12) hx hb dX11_modulo_4 (by decide) ?_
  refine lv_iadd hx hb dX11_modulo_6 ?_
  refine lv_bipush (v := 12) hx hb dX11_modulo_7 (by decide) ?_
  refine lv_irem hx hb dX11_modulo_9 (by decide) ?_
  cases hf
  exact zeri hx hb hr hk dX11_modulo_10
set_option maxHeartbeats 4000000 in
set_option maxRecDepth 100000 in
theorem c_Mo_modulo {l : Launch} {dC : Nat → ClassId} {dI : Nat → Nat → Nat} {cy : Nat → ClassId} {N : Nat} (v0 : Int32) {y : Int32} (hf : Mo_modulo N v0 = some y) : Met l yX11_modulo (.code yX11_modulo cX11_modulo 1 (some .int) :: zt) rm_Mo_modulo (va_Pc [.int v0] (zRd (dC, dI) cy (wd_Mo_modulo cy))) (zSi y) 0 0 (fun _ => False) :=
  zentR (by decide +kernel) (Nat.le_of_ble_eq_true rfl) (fun p e s m below meth c C0 hP ls hl => k_Mo_modulo_b0 C0 v0 hP hf ls hl)
def wd_Mo_toneNow (cy : Nat → ClassId) (o0 : Nat) (a0 : Nat → Nat) (g0 : Nat → Int32) (h0 : Nat → Int64) (x0_16 : Nat → Int32) (x0_33 : Nat → Int32) : va_W := [(o0, .inr (11, fs_Mo a0 g0 h0)), (a0 16, .inl (cy 0, 11, .inl x0_16)), (a0 33, .inl (cy 0, 11, .inl x0_33))]
def rm_Mo_toneNow : Room := { frames := 2, cells := 0, slots := 0, locals := 60 }
theorem rm_ok_Mo_toneNow_Mo_modulo : rm_Mo_modulo.cells = 0 ∧ rm_Mo_modulo.slots = 0 ∧ rm_Mo_modulo.frames + 1 ≤ rm_Mo_toneNow.frames ∧ 8 + (1 + 11) + rm_Mo_modulo.locals ≤ rm_Mo_toneNow.locals := by decide
set_option maxHeartbeats 4000000 in
set_option maxRecDepth 100000 in
theorem k_Mo_toneNow_b0 {p : Program} {l : Launch} {e : Env} {s : State} {m : MethodId} {args : Array Value} {below : List Frame} {meth : Method} {c : Code} {dC : Nat → ClassId} {dI : Nat → Nat → Nat} {cy : Nat → ClassId} {o0 : Nat} {a0 : Nat → Nat} {N : Nat} {y : Int32} (C0 : zCx p s m args meth c cX11_toneNow 2 (some .int) RX11 (dC, dI) cy) (s0 : zSt) (v1 : Int32) (hP : va_P (dC, dI) vwCl (wd_Mo_toneNow cy o0 a0 (zI s0) (zL s0) (zA s0 16) (zA s0 33)) s.heap) (hf : Mo_toneNow_b0 N s0 v1 = some y) (ls : Array Slot) (hl : lv_has ls 2 [(0, .ref o0), (1, .int v1)]) : W p l e rm_Mo_toneNow s m args below meth c s.heap [] 0 0 (MQ below (zSi y) args s 0 0 (fun _ => False)) (F0 m 0 ls []) := by
  obtain ⟨hx, hb, hr, hml, hown, hT, hk, hK⟩ := id C0
  refine lv_aload_n hx hb dX11_toneNow_0 rfl (lv_at hl 0 rfl) ?_
  refine zget (v := .ref (a0 16)) hx hb hown hT hK hP inX11 rfl smX11 0 rfl 16 (by decide) tb_1018 rfl dX11_toneNow_1 ?_
  refine lv_iload_n hx hb dX11_toneNow_4 rfl (lv_at hl 1 rfl) ?_
  obtain ⟨hi1, hf⟩ := zck_some hf
  refine va_iald hx hb hK.1 hP 1 0 rfl rfl hi1 dX11_toneNow_5 ?_
  refine lv_aload_n hx hb dX11_toneNow_6 rfl (lv_at hl 0 rfl) ?_
  refine zget (v := .ref (a0 33)) hx hb hown hT hK hP inX11 rfl smX11 0 rfl 33 (by decide) tb_1035 rfl dX11_toneNow_7 ?_
  refine lv_iload_n hx hb dX11_toneNow_10 rfl (lv_at hl 1 rfl) ?_
  obtain ⟨hi2, hf⟩ := zck_some hf
  refine va_iald hx hb hK.1 hP 2 0 rfl rfl hi2 dX11_toneNow_11 ?_
  refine lv_aload_n hx hb dX11_toneNow_12 rfl (lv_at hl 0 rfl) ?_
  refine zget (v := .int (zI s0 38)) hx hb hown hT hK hP inX11 rfl smX11 0 rfl 38 (by decide) tb_1040 rfl dX11_toneNow_13 ?_
  refine lv_imul hx hb dX11_toneNow_16 ?_
  refine lv_isub hx hb dX11_toneNow_17 ?_
  obtain ⟨z3, hc4, hf⟩ := zbd_some hf
  refine zri (zS (As := [.int (((zA s0 16) (Int32.toNatClampNeg v1)) - (((zA s0 33) (Int32.toNatClampNeg v1)) * (zI s0 38)))]) hx hb hml hown hT hl.1 (c_Mo_modulo (((zA s0 16) (Int32.toNatClampNeg v1)) - (((zA s0 33) (Int32.toNatClampNeg v1)) * (zI s0 38))) hc4) zY_Mo_modulo tb_1326 (zpS hK hP [] rfl) rm_ok_Mo_toneNow_Mo_modulo rfl rfl (Nat.le_of_ble_eq_true rfl) dX11_toneNow_18 ⟨Nat.zero_le _, Nat.zero_le _⟩) ?_
  cases hf
  exact zeri hx hb hr hk dX11_toneNow_21
set_option maxHeartbeats 4000000 in
set_option maxRecDepth 100000 in
theorem c_Mo_toneNow {l : Launch} {dC : Nat → ClassId} {dI : Nat → Nat → Nat} {cy : Nat → ClassId} {N : Nat} (o0 : Nat) (a0 : Nat → Nat) (s0 : zSt) (v1 : Int32) {y : Int32} (hf : Mo_toneNow N s0 v1 = some y) : Met l yX11_toneNow (.code yX11_toneNow cX11_toneNow 2 (some .int) :: zt) rm_Mo_toneNow (va_Pc [.ref o0, .int v1] (zRd (dC, dI) cy (wd_Mo_toneNow cy o0 a0 (zI s0) (zL s0) (zA s0 16) (zA s0 33)))) (zSi y) 0 0 (fun _ => False) :=
  zentR (by decide +kernel) (Nat.le_of_ble_eq_true rfl) (fun p e s m below meth c C0 hP ls hl => k_Mo_toneNow_b0 C0 s0 v1 hP hf ls hl)
def wd_Mo_loudAt (cy : Nat → ClassId) (o0 : Nat) (a0 : Nat → Nat) (g0 : Nat → Int32) (h0 : Nat → Int64) (x0_17 : Nat → Int32) (x0_19 : Nat → Int32) : va_W := [(o0, .inr (11, fs_Mo a0 g0 h0)), (a0 17, .inl (cy 0, 11, .inl x0_17)), (a0 19, .inl (cy 0, 4, .inl x0_19))]
def rm_Mo_loudAt : Room := { frames := 1, cells := 0, slots := 0, locals := 40 }
set_option maxHeartbeats 4000000 in
set_option maxRecDepth 100000 in
theorem k_Mo_loudAt_b29 {p : Program} {l : Launch} {e : Env} {s : State} {m : MethodId} {args : Array Value} {below : List Frame} {meth : Method} {c : Code} {dC : Nat → ClassId} {dI : Nat → Nat → Nat} {cy : Nat → ClassId} {o0 : Nat} {a0 : Nat → Nat} {N : Nat} {y : Int32} (C0 : zCx p s m args meth c cX11_loudAt 7 (some .int) RX11 (dC, dI) cy) (s0 : zSt) (v4 : Int32) (t0 : Int32) (t1 : Int32) (hP : va_P (dC, dI) vwCl (wd_Mo_loudAt cy o0 a0 (zI s0) (zL s0) (zA s0 17) (zA s0 19)) s.heap) (hf : Mo_loudAt_b29 N s0 v4 t0 t1 = some y) (ls : Array Slot) (hl : lv_has ls 7 [(4, .int v4)]) : W p l e rm_Mo_loudAt s m args below meth c s.heap [] 0 0 (MQ below (zSi y) args s 0 0 (fun _ => False)) (F0 m 29 ls [.int t1, .int t0]) := by
  obtain ⟨hx, hb, hr, hml, hown, hT, hk, hK⟩ := id C0
  refine lv_isub hx hb dX11_loudAt_29 ?_
  refine lv_iload hx hb dX11_loudAt_30 (lv_at hl 0 rfl) ?_
  refine lv_isub hx hb dX11_loudAt_32 ?_
  refine lv_istore (lv' := [(6, .int ((t0 - t1) - v4)), (4, .int v4)]) hx hb dX11_loudAt_33 hl (by decide) rfl (fun ls hl => ?_)
  refine lv_iload hx hb dX11_loudAt_35 (lv_at hl 0 rfl) ?_
  refine lv_if_ge (tgt := 44) hx hb dX11_loudAt_37 (by decide) (fun hb_1 => ?_) (fun hb_1 => ?_)
  · have hf := zif_t hb_1 hf
    refine lv_iload hx hb dX11_loudAt_44 (lv_at hl 0 rfl) ?_
    cases hf
    exact zeri hx hb hr hk dX11_loudAt_46
  · have hf := zif_f hb_1 hf
    refine lv_iconst (v := 0) hx hb dX11_loudAt_40 (by decide) ?_
    refine lv_goto (tgt := 46) hx hb dX11_loudAt_41 (by decide) ?_
    cases hf
    exact zeri hx hb hr hk dX11_loudAt_46
set_option maxHeartbeats 4000000 in
set_option maxRecDepth 100000 in
theorem k_Mo_loudAt_b0 {p : Program} {l : Launch} {e : Env} {s : State} {m : MethodId} {args : Array Value} {below : List Frame} {meth : Method} {c : Code} {dC : Nat → ClassId} {dI : Nat → Nat → Nat} {cy : Nat → ClassId} {o0 : Nat} {a0 : Nat → Nat} {N : Nat} {y : Int32} (C0 : zCx p s m args meth c cX11_loudAt 7 (some .int) RX11 (dC, dI) cy) (s0 : zSt) (v1 : Int32) (v2 : Int32) (v3 : Int32) (v4 : Int32) (hP : va_P (dC, dI) vwCl (wd_Mo_loudAt cy o0 a0 (zI s0) (zL s0) (zA s0 17) (zA s0 19)) s.heap) (hf : Mo_loudAt_b0 N s0 v1 v2 v3 v4 = some y) (ls : Array Slot) (hl : lv_has ls 7 [(0, .ref o0), (1, .int v1), (2, .int v2), (3, .int v3), (4, .int v4)]) : W p l e rm_Mo_loudAt s m args below meth c s.heap [] 0 0 (MQ below (zSi y) args s 0 0 (fun _ => False)) (F0 m 0 ls []) := by
  obtain ⟨hx, hb, hr, hml, hown, hT, hk, hK⟩ := id C0
  refine lv_aload_n hx hb dX11_loudAt_0 rfl (lv_at hl 0 rfl) ?_
  refine zget (v := .ref (a0 19)) hx hb hown hT hK hP inX11 rfl smX11 0 rfl 19 (by decide) tb_1021 rfl dX11_loudAt_1 ?_
  refine lv_iload_n hx hb dX11_loudAt_4 rfl (lv_at hl 2 rfl) ?_
  obtain ⟨hi1, hf⟩ := zck_some hf
  refine va_iald hx hb hK.1 hP 2 0 rfl rfl hi1 dX11_loudAt_5 ?_
  refine lv_iload_n hx hb dX11_loudAt_6 rfl (lv_at hl 3 rfl) ?_
  refine lv_isub hx hb dX11_loudAt_7 ?_
  refine lv_istore (lv' := [(5, .int (((zA s0 19) (Int32.toNatClampNeg v2)) - v3)), (0, .ref o0), (1, .int v1), (2, .int v2), (3, .int v3), (4, .int v4)]) hx hb dX11_loudAt_8 hl (by decide) rfl (fun ls hl => ?_)
  refine lv_aload_n hx hb dX11_loudAt_10 rfl (lv_at hl 1 rfl) ?_
  refine zget (v := .ref (a0 17)) hx hb hown hT hK hP inX11 rfl smX11 0 rfl 17 (by decide) tb_1019 rfl dX11_loudAt_11 ?_
  refine lv_iload_n hx hb dX11_loudAt_14 rfl (lv_at hl 2 rfl) ?_
  obtain ⟨hi2, hf⟩ := zck_some hf
  refine va_iald hx hb hK.1 hP 1 0 rfl rfl hi2 dX11_loudAt_15 ?_
  refine lv_iload hx hb dX11_loudAt_16 (lv_at hl 0 rfl) ?_
  refine lv_if_ge (tgt := 27) hx hb dX11_loudAt_18 (by decide) (fun hb_3 => ?_) (fun hb_3 => ?_)
  · have hf := zif_t hb_3 hf
    refine lv_iload hx hb dX11_loudAt_27 (lv_at hl 0 rfl) ?_
    exact k_Mo_loudAt_b29 C0 s0 v4 ((zA s0 17) (Int32.toNatClampNeg v1)) (((zA s0 19) (Int32.toNatClampNeg v2)) - v3)  hP hf _ (lv_sub hl [5] rfl)
  · have hf := zif_f hb_3 hf
    refine lv_iload hx hb dX11_loudAt_21 (lv_at hl 0 rfl) ?_
    refine lv_ineg hx hb dX11_loudAt_23 ?_
    refine lv_goto (tgt := 29) hx hb dX11_loudAt_24 (by decide) ?_
    exact k_Mo_loudAt_b29 C0 s0 v4 ((zA s0 17) (Int32.toNatClampNeg v1)) (-(((zA s0 19) (Int32.toNatClampNeg v2)) - v3))  hP hf _ (lv_sub hl [5] rfl)
set_option maxHeartbeats 4000000 in
set_option maxRecDepth 100000 in
theorem c_Mo_loudAt {l : Launch} {dC : Nat → ClassId} {dI : Nat → Nat → Nat} {cy : Nat → ClassId} {N : Nat} (o0 : Nat) (a0 : Nat → Nat) (s0 : zSt) (v1 : Int32) (v2 : Int32) (v3 : Int32) (v4 : Int32) {y : Int32} (hf : Mo_loudAt N s0 v1 v2 v3 v4 = some y) : Met l yX11_loudAt (.code yX11_loudAt cX11_loudAt 7 (some .int) :: zt) rm_Mo_loudAt (va_Pc [.ref o0, .int v1, .int v2, .int v3, .int v4] (zRd (dC, dI) cy (wd_Mo_loudAt cy o0 a0 (zI s0) (zL s0) (zA s0 17) (zA s0 19)))) (zSi y) 0 0 (fun _ => False) :=
  zentR (by decide +kernel) (Nat.le_of_ble_eq_true rfl) (fun p e s m below meth c C0 hP ls hl => k_Mo_loudAt_b0 C0 s0 v1 v2 v3 v4 hP hf ls hl)
def wd_Mo_bell (cy : Nat → ClassId) (o0 : Nat) (a0 : Nat → Nat) (g0 : Nat → Int32) (h0 : Nat → Int64) (x0_16 : Nat → Int32) (x0_17 : Nat → Int32) (x0_18 : Nat → Int32) (x0_33 : Nat → Int32) : va_W := [(o0, .inr (11, fs_Mo a0 g0 h0)), (a0 16, .inl (cy 0, 11, .inl x0_16)), (a0 17, .inl (cy 0, 11, .inl x0_17)), (a0 18, .inl (cy 0, 11, .inl x0_18)), (a0 33, .inl (cy 0, 11, .inl x0_33))]
def rm_Mo_bell : Room := { frames := 3, cells := 0, slots := 0, locals := 83 }
theorem rm_ok_Mo_bell_Mo_isBell : rm_Mo_isBell.cells = 0 ∧ rm_Mo_isBell.slots = 0 ∧ rm_Mo_isBell.frames + 1 ≤ rm_Mo_bell.frames ∧ 8 + (2 + 11) + rm_Mo_isBell.locals ≤ rm_Mo_bell.locals := by decide
theorem rm_ok_Mo_bell_Mo_toneNow : rm_Mo_toneNow.cells = 0 ∧ rm_Mo_toneNow.slots = 0 ∧ rm_Mo_toneNow.frames + 1 ≤ rm_Mo_bell.frames ∧ 8 + (2 + 11) + rm_Mo_toneNow.locals ≤ rm_Mo_bell.locals := by decide
set_option maxHeartbeats 4000000 in
set_option maxRecDepth 100000 in
theorem k_Mo_bell_b0 {p : Program} {l : Launch} {e : Env} {s : State} {m : MethodId} {args : Array Value} {below : List Frame} {meth : Method} {c : Code} {dC : Nat → ClassId} {dI : Nat → Nat → Nat} {cy : Nat → ClassId} {o0 : Nat} {a0 : Nat → Nat} {N : Nat} {y : Int32} (C0 : zCx p s m args meth c cX11_bell 3 (some .int) RX11 (dC, dI) cy) (s0 : zSt) (v1 : Int32) (v2 : Int32) (hP : va_P (dC, dI) vwCl (wd_Mo_bell cy o0 a0 (zI s0) (zL s0) (zA s0 16) (zA s0 17) (zA s0 18) (zA s0 33)) s.heap) (hf : Mo_bell_b0 N s0 v1 v2 = some y) (ls : Array Slot) (hl : lv_has ls 3 [(0, .ref o0), (1, .int v1), (2, .int v2)]) : W p l e rm_Mo_bell s m args below meth c s.heap [] 0 0 (MQ below (zSi y) args s 0 0 (fun _ => False)) (F0 m 0 ls []) := by
  obtain ⟨hx, hb, hr, hml, hown, hT, hk, hK⟩ := id C0
  refine lv_aload_n hx hb dX11_bell_0 rfl (lv_at hl 0 rfl) ?_
  refine lv_iload_n hx hb dX11_bell_1 rfl (lv_at hl 1 rfl) ?_
  obtain ⟨z1, hc2, hf⟩ := zbd_some hf
  refine zri (zV (As := [.int v1]) hx hb hml hown hT hl.1 (c_Mo_isBell o0 a0 s0 v1 hc2) zY_Mo_isBell tb_1315 (zpR hK hP [0] rfl 0 11 rfl rfl rfl) rm_ok_Mo_bell_Mo_isBell rfl rfl (Nat.le_of_ble_eq_true rfl) dX11_bell_2 ⟨Nat.zero_le _, Nat.zero_le _⟩) ?_
  refine lv_if_ne (tgt := 11) hx hb dX11_bell_5 (by decide) (fun hb_3 => ?_) (fun hb_3 => ?_)
  · have hf := zif_f hb_3 hf
    refine lv_iload_n hx hb dX11_bell_11 rfl (lv_at hl 2 rfl) ?_
    by_cases hw40 : v2 = 0
    · have hf := zif_t hw40 hf
      refine lv_tableIn (off := 40) (tgt := 52) hx hb dX11_bell_12 (by rw [hw40]; decide) (by rw [hw40]; decide) (by rw [hw40]; decide) (by decide) ?_
      refine lv_aload_n hx hb dX11_bell_52 rfl (lv_at hl 0 rfl) ?_
      refine lv_iload_n hx hb dX11_bell_53 rfl (lv_at hl 1 rfl) ?_
      obtain ⟨z5, hc6, hf⟩ := zbd_some hf
      refine zri (zV (As := [.int v1]) hx hb hml hown hT hl.1 (c_Mo_toneNow o0 a0 s0 v1 hc6) zY_Mo_toneNow tb_1322 (zpR hK hP [0, 1, 4] rfl 0 11 rfl rfl rfl) rm_ok_Mo_bell_Mo_toneNow rfl rfl (Nat.le_of_ble_eq_true rfl) dX11_bell_54 ⟨Nat.zero_le _, Nat.zero_le _⟩) ?_
      cases hf
      exact zeri hx hb hr hk dX11_bell_57
    · have hf := zif_f hw40 hf
      by_cases hw41 : v2 = 1
      · have hf := zif_t hw41 hf
        refine lv_tableIn (off := 46) (tgt := 58) hx hb dX11_bell_12 (by rw [hw41]; decide) (by rw [hw41]; decide) (by rw [hw41]; decide) (by decide) ?_
        refine lv_aload_n hx hb dX11_bell_58 rfl (lv_at hl 0 rfl) ?_
        refine zget (v := .ref (a0 17)) hx hb hown hT hK hP inX11 rfl smX11 0 rfl 17 (by decide) tb_1019 rfl dX11_bell_59 ?_
        refine lv_iload_n hx hb dX11_bell_62 rfl (lv_at hl 1 rfl) ?_
        obtain ⟨hi7, hf⟩ := zck_some hf
        refine va_iald hx hb hK.1 hP 2 0 rfl rfl hi7 dX11_bell_63 ?_
        cases hf
        exact zeri hx hb hr hk dX11_bell_64
      · have hf := zif_f hw41 hf
        by_cases hw42 : v2 = 2
        · have hf := zif_t hw42 hf
          refine lv_tableIn (off := 53) (tgt := 65) hx hb dX11_bell_12 (by rw [hw42]; decide) (by rw [hw42]; decide) (by rw [hw42]; decide) (by decide) ?_
          refine lv_aload_n hx hb dX11_bell_65 rfl (lv_at hl 0 rfl) ?_
          refine zget (v := .ref (a0 18)) hx hb hown hT hK hP inX11 rfl smX11 0 rfl 18 (by decide) tb_1020 rfl dX11_bell_66 ?_
          refine lv_iload_n hx hb dX11_bell_69 rfl (lv_at hl 1 rfl) ?_
          obtain ⟨hi8, hf⟩ := zck_some hf
          refine va_iald hx hb hK.1 hP 3 0 rfl rfl hi8 dX11_bell_70 ?_
          cases hf
          exact zeri hx hb hr hk dX11_bell_71
        · have hf := zif_f hw42 hf
          by_cases hw43 : v2 = 3
          · have hf := zif_t hw43 hf
            refine lv_tableIn (off := 60) (tgt := 72) hx hb dX11_bell_12 (by rw [hw43]; decide) (by rw [hw43]; decide) (by rw [hw43]; decide) (by decide) ?_
            refine lv_aload_n hx hb dX11_bell_72 rfl (lv_at hl 0 rfl) ?_
            refine zget (v := .ref (a0 33)) hx hb hown hT hK hP inX11 rfl smX11 0 rfl 33 (by decide) tb_1035 rfl dX11_bell_73 ?_
            refine lv_iload_n hx hb dX11_bell_76 rfl (lv_at hl 1 rfl) ?_
            obtain ⟨hi9, hf⟩ := zck_some hf
            refine va_iald hx hb hK.1 hP 4 0 rfl rfl hi9 dX11_bell_77 ?_
            cases hf
            exact zeri hx hb hr hk dX11_bell_78
          · have hf := zif_f hw43 hf
            by_cases hw44 : v2 = 4
            · have hf := zif_t hw44 hf
              refine lv_tableIn (off := 67) (tgt := 79) hx hb dX11_bell_12 (by rw [hw44]; decide) (by rw [hw44]; decide) (by rw [hw44]; decide) (by decide) ?_
              refine lv_aload_n hx hb dX11_bell_79 rfl (lv_at hl 0 rfl) ?_
              refine zget (v := .int (zI s0 34)) hx hb hown hT hK hP inX11 rfl smX11 0 rfl 34 (by decide) tb_1036 rfl dX11_bell_80 ?_
              refine lv_iload_n hx hb dX11_bell_83 rfl (lv_at hl 1 rfl) ?_
              refine lv_ishr hx hb dX11_bell_84 ?_
              refine lv_iconst (v := 1) hx hb dX11_bell_85 (by decide) ?_
              refine lv_iand hx hb dX11_bell_86 ?_
              cases hf
              exact zeri hx hb hr hk dX11_bell_87
            · have hf := zif_f hw44 hf
              by_cases hw45 : v2 = 5
              · have hf := zif_t hw45 hf
                refine lv_tableIn (off := 76) (tgt := 88) hx hb dX11_bell_12 (by rw [hw45]; decide) (by rw [hw45]; decide) (by rw [hw45]; decide) (by decide) ?_
                refine lv_aload_n hx hb dX11_bell_88 rfl (lv_at hl 0 rfl) ?_
                refine zget (v := .int (zI s0 35)) hx hb hown hT hK hP inX11 rfl smX11 0 rfl 35 (by decide) tb_1037 rfl dX11_bell_89 ?_
                refine lv_iload_n hx hb dX11_bell_92 rfl (lv_at hl 1 rfl) ?_
                refine lv_ishr hx hb dX11_bell_93 ?_
                refine lv_iconst (v := 1) hx hb dX11_bell_94 (by decide) ?_
                refine lv_iand hx hb dX11_bell_95 ?_
                cases hf
                exact zeri hx hb hr hk dX11_bell_96
              · have hf := zif_f hw45 hf
                refine lv_tableOut (tgt := 97) hx hb dX11_bell_12 (zsw 5 (by decide) (fun k hk => ?_)) (by decide) ?_
                · rcases (show k = 0 ∨ k = 1 ∨ k = 2 ∨ k = 3 ∨ k = 4 ∨ k = 5 by omega) with rfl | rfl | rfl | rfl | rfl | rfl
                  · exact hw40
                  · exact hw41
                  · exact hw42
                  · exact hw43
                  · exact hw44
                  · exact hw45
                · refine lv_bipush (v := (-2)) hx hb dX11_bell_97 (by decide) ?_
                  cases hf
                  exact zeri hx hb hr hk dX11_bell_99
  · have hf := zif_t hb_3 hf
    refine lv_bipush (v := (-2)) hx hb dX11_bell_8 (by decide) ?_
    cases hf
    exact zeri hx hb hr hk dX11_bell_10
set_option maxHeartbeats 4000000 in
set_option maxRecDepth 100000 in
theorem c_Mo_bell {l : Launch} {dC : Nat → ClassId} {dI : Nat → Nat → Nat} {cy : Nat → ClassId} {N : Nat} (o0 : Nat) (a0 : Nat → Nat) (s0 : zSt) (v1 : Int32) (v2 : Int32) {y : Int32} (hf : Mo_bell N s0 v1 v2 = some y) : Met l yX11_bell (.code yX11_bell cX11_bell 3 (some .int) :: zt) rm_Mo_bell (va_Pc [.ref o0, .int v1, .int v2] (zRd (dC, dI) cy (wd_Mo_bell cy o0 a0 (zI s0) (zL s0) (zA s0 16) (zA s0 17) (zA s0 18) (zA s0 33)))) (zSi y) 0 0 (fun _ => False) :=
  zentR (by decide +kernel) (Nat.le_of_ble_eq_true rfl) (fun p e s m below meth c C0 hP ls hl => k_Mo_bell_b0 C0 s0 v1 v2 hP hf ls hl)
def wd_Mo_heard (cy : Nat → ClassId) (o0 : Nat) (a0 : Nat → Nat) (g0 : Nat → Int32) (h0 : Nat → Int64) (x0_16 : Nat → Int32) (x0_17 : Nat → Int32) (x0_19 : Nat → Int32) (x0_33 : Nat → Int32) : va_W := [(o0, .inr (11, fs_Mo a0 g0 h0)), (a0 16, .inl (cy 0, 11, .inl x0_16)), (a0 17, .inl (cy 0, 11, .inl x0_17)), (a0 19, .inl (cy 0, 4, .inl x0_19)), (a0 33, .inl (cy 0, 11, .inl x0_33))]
def rm_Mo_heard : Room := { frames := 3, cells := 0, slots := 0, locals := 81 }
theorem rm_ok_Mo_heard_Mo_loudAt : rm_Mo_loudAt.cells = 0 ∧ rm_Mo_loudAt.slots = 0 ∧ rm_Mo_loudAt.frames + 1 ≤ rm_Mo_heard.frames ∧ 8 + (7 + 11) + rm_Mo_loudAt.locals ≤ rm_Mo_heard.locals := by decide
theorem rm_ok_Mo_heard_Mo_toneNow : rm_Mo_toneNow.cells = 0 ∧ rm_Mo_toneNow.slots = 0 ∧ rm_Mo_toneNow.frames + 1 ≤ rm_Mo_heard.frames ∧ 8 + (2 + 11) + rm_Mo_toneNow.locals ≤ rm_Mo_heard.locals := by decide
set_option maxHeartbeats 4000000 in
set_option maxRecDepth 100000 in
theorem k_Mo_heard_b69 {p : Program} {l : Launch} {e : Env} {s : State} {m : MethodId} {args : Array Value} {below : List Frame} {meth : Method} {c : Code} {dC : Nat → ClassId} {dI : Nat → Nat → Nat} {cy : Nat → ClassId} {o0 : Nat} {a0 : Nat → Nat} {N : Nat} {kh5 : Int32 → Int32 → Option (Int32)} {y : Int32} (C0 : zCx p s m args meth c cX11_heard 5 (some .int) RX11 (dC, dI) cy) (s0 : zSt) (v1 : Int32) (v2 : Int32) (v4 : Int32) (t0 : Int32) (t1 : Int32) (hk5 : ∀ (v3 : Int32) (v4 : Int32) (_ : kh5 v3 v4 = some y) (ls : Array Slot) (_ : lv_has ls 5 [(0, .ref o0), (1, .int v1), (2, .int v2), (3, .int v3), (4, .int v4)]), W p l e rm_Mo_heard s m args below meth c s.heap [] 0 0 (MQ below (zSi y) args s 0 0 (fun _ => False)) (F0 m 5 ls [])) (hP : va_P (dC, dI) vwCl (wd_Mo_heard cy o0 a0 (zI s0) (zL s0) (zA s0 16) (zA s0 17) (zA s0 19) (zA s0 33)) s.heap) (hf : Mo_heard_b69 N kh5 s0 v1 v2 v4 t0 t1 = some y) (ls : Array Slot) (hl : lv_has ls 5 [(0, .ref o0), (1, .int v1), (2, .int v2), (4, .int v4)]) : W p l e rm_Mo_heard s m args below meth c s.heap [] 0 0 (MQ below (zSi y) args s 0 0 (fun _ => False)) (F0 m 69 ls [.int t1, .int t0]) := by
  obtain ⟨hx, hb, hr, hml, hown, hT, hk, hK⟩ := id C0
  refine lv_iadd hx hb dX11_heard_69 ?_
  refine lv_istore_n (lv' := [(3, .int (t0 + t1)), (0, .ref o0), (1, .int v1), (2, .int v2), (4, .int v4)]) hx hb dX11_heard_70 rfl hl (by decide) rfl (fun ls hl => ?_)
  refine lv_iinc (v := v4 + 1) (lv' := [(4, .int (v4 + 1)), (3, .int (t0 + t1)), (0, .ref o0), (1, .int v1), (2, .int v2)]) hx hb dX11_heard_71 hl (k := 4) rfl rfl (by decide) rfl (fun ls hl => ?_)
  refine lv_goto (tgt := 5) hx hb dX11_heard_74 (by decide) ?_
  exact hk5 (t0 + t1) (v4 + 1) hf _ (lv_sub hl [2, 3, 4, 1, 0] rfl)
set_option maxHeartbeats 4000000 in
set_option maxRecDepth 100000 in
theorem k_Mo_heard_b68 {p : Program} {l : Launch} {e : Env} {s : State} {m : MethodId} {args : Array Value} {below : List Frame} {meth : Method} {c : Code} {dC : Nat → ClassId} {dI : Nat → Nat → Nat} {cy : Nat → ClassId} {o0 : Nat} {a0 : Nat → Nat} {N : Nat} {kh5 : Int32 → Int32 → Option (Int32)} {y : Int32} (C0 : zCx p s m args meth c cX11_heard 5 (some .int) RX11 (dC, dI) cy) (s0 : zSt) (v1 : Int32) (v2 : Int32) (v4 : Int32) (t0 : Int32) (hk5 : ∀ (v3 : Int32) (v4 : Int32) (_ : kh5 v3 v4 = some y) (ls : Array Slot) (_ : lv_has ls 5 [(0, .ref o0), (1, .int v1), (2, .int v2), (3, .int v3), (4, .int v4)]), W p l e rm_Mo_heard s m args below meth c s.heap [] 0 0 (MQ below (zSi y) args s 0 0 (fun _ => False)) (F0 m 5 ls [])) (hP : va_P (dC, dI) vwCl (wd_Mo_heard cy o0 a0 (zI s0) (zL s0) (zA s0 16) (zA s0 17) (zA s0 19) (zA s0 33)) s.heap) (hf : Mo_heard_b68 N kh5 s0 v1 v2 v4 t0 = some y) (ls : Array Slot) (hl : lv_has ls 5 [(0, .ref o0), (1, .int v1), (2, .int v2), (4, .int v4)]) : W p l e rm_Mo_heard s m args below meth c s.heap [] 0 0 (MQ below (zSi y) args s 0 0 (fun _ => False)) (F0 m 68 ls [.int t0]) := by
  obtain ⟨hx, hb, hr, hml, hown, hT, hk, hK⟩ := id C0
  refine lv_iconst (v := 0) hx hb dX11_heard_68 (by decide) ?_
  exact k_Mo_heard_b69 C0 s0 v1 v2 v4 t0 0 hk5 hP hf _ (lv_sub hl [0, 1, 2, 3] rfl)
set_option maxHeartbeats 4000000 in
set_option maxRecDepth 100000 in
theorem k_Mo_heard_b5 {p : Program} {l : Launch} {e : Env} {s : State} {m : MethodId} {args : Array Value} {below : List Frame} {meth : Method} {c : Code} {dC : Nat → ClassId} {dI : Nat → Nat → Nat} {cy : Nat → ClassId} {o0 : Nat} {a0 : Nat → Nat} {N : Nat} {kh5 : Int32 → Int32 → Option (Int32)} {y : Int32} (C0 : zCx p s m args meth c cX11_heard 5 (some .int) RX11 (dC, dI) cy) (s0 : zSt) (v1 : Int32) (v2 : Int32) (v3 : Int32) (v4 : Int32) (hk5 : ∀ (v3 : Int32) (v4 : Int32) (_ : kh5 v3 v4 = some y) (ls : Array Slot) (_ : lv_has ls 5 [(0, .ref o0), (1, .int v1), (2, .int v2), (3, .int v3), (4, .int v4)]), W p l e rm_Mo_heard s m args below meth c s.heap [] 0 0 (MQ below (zSi y) args s 0 0 (fun _ => False)) (F0 m 5 ls [])) (hP : va_P (dC, dI) vwCl (wd_Mo_heard cy o0 a0 (zI s0) (zL s0) (zA s0 16) (zA s0 17) (zA s0 19) (zA s0 33)) s.heap) (hf : Mo_heard_b5 N kh5 s0 v1 v2 v3 v4 = some y) (ls : Array Slot) (hl : lv_has ls 5 [(0, .ref o0), (1, .int v1), (2, .int v2), (3, .int v3), (4, .int v4)]) : W p l e rm_Mo_heard s m args below meth c s.heap [] 0 0 (MQ below (zSi y) args s 0 0 (fun _ => False)) (F0 m 5 ls []) := by
  obtain ⟨hx, hb, hr, hml, hown, hT, hk, hK⟩ := id C0
  refine lv_iload hx hb dX11_heard_5 (lv_at hl 4 rfl) ?_
  refine lv_aload_n hx hb dX11_heard_7 rfl (lv_at hl 0 rfl) ?_
  refine zget (v := .int (zI s0 29)) hx hb hown hT hK hP inX11 rfl smX11 0 rfl 29 (by decide) tb_1031 rfl dX11_heard_8 ?_
  refine lv_icmp_ge (tgt := 77) hx hb dX11_heard_11 (by decide) (fun hb_1 => ?_) (fun hb_1 => ?_)
  · have hf := zif_t hb_1 hf
    refine lv_iload_n hx hb dX11_heard_77 rfl (lv_at hl 3 rfl) ?_
    cases hf
    exact zeri hx hb hr hk dX11_heard_78
  · have hf := zif_f hb_1 hf
    refine lv_iload_n hx hb dX11_heard_14 rfl (lv_at hl 3 rfl) ?_
    refine lv_aload_n hx hb dX11_heard_15 rfl (lv_at hl 0 rfl) ?_
    refine zget (v := .int (zI s0 34)) hx hb hown hT hK hP inX11 rfl smX11 0 rfl 34 (by decide) tb_1036 rfl dX11_heard_16 ?_
    refine lv_iload hx hb dX11_heard_19 (lv_at hl 4 rfl) ?_
    refine lv_ishr hx hb dX11_heard_21 ?_
    refine lv_iconst (v := 1) hx hb dX11_heard_22 (by decide) ?_
    refine lv_iand hx hb dX11_heard_23 ?_
    refine lv_iconst (v := 1) hx hb dX11_heard_24 (by decide) ?_
    refine lv_icmp_ne (tgt := 68) hx hb dX11_heard_25 (by decide) (fun hb_2 => ?_) (fun hb_2 => ?_)
    · have hf := zif_f hb_2 hf
      exact k_Mo_heard_b68 C0 s0 v1 v2 v4 v3 hk5 hP hf _ (lv_sub hl [0, 1, 2, 4] rfl)
    · have hf := zif_t hb_2 hf
      refine lv_aload_n hx hb dX11_heard_28 rfl (lv_at hl 0 rfl) ?_
      refine zget (v := .int (zI s0 35)) hx hb hown hT hK hP inX11 rfl smX11 0 rfl 35 (by decide) tb_1037 rfl dX11_heard_29 ?_
      refine lv_iload hx hb dX11_heard_32 (lv_at hl 4 rfl) ?_
      refine lv_ishr hx hb dX11_heard_34 ?_
      refine lv_iconst (v := 1) hx hb dX11_heard_35 (by decide) ?_
      refine lv_iand hx hb dX11_heard_36 ?_
      refine lv_if_ne (tgt := 68) hx hb dX11_heard_37 (by decide) (fun hb_3 => ?_) (fun hb_3 => ?_)
      · have hf := zif_f hb_3 hf
        exact k_Mo_heard_b68 C0 s0 v1 v2 v4 v3 hk5 hP hf _ (lv_sub hl [0, 1, 2, 4] rfl)
      · have hf := zif_t hb_3 hf
        refine lv_aload_n hx hb dX11_heard_40 rfl (lv_at hl 0 rfl) ?_
        refine lv_iload hx hb dX11_heard_41 (lv_at hl 4 rfl) ?_
        obtain ⟨z4, hc5, hf⟩ := zbd_some hf
        refine zri (zV (As := [.int v4]) hx hb hml hown hT hl.1 (c_Mo_toneNow o0 a0 s0 v4 hc5) zY_Mo_toneNow tb_1322 (zpR hK hP [0, 1, 4] rfl 0 11 rfl rfl rfl) rm_ok_Mo_heard_Mo_toneNow rfl rfl (Nat.le_of_ble_eq_true rfl) dX11_heard_43 ⟨Nat.zero_le _, Nat.zero_le _⟩) ?_
        refine lv_iload_n hx hb dX11_heard_46 rfl (lv_at hl 2 rfl) ?_
        refine lv_icmp_ne (tgt := 68) hx hb dX11_heard_47 (by decide) (fun hb_6 => ?_) (fun hb_6 => ?_)
        · have hf := zif_f hb_6 hf
          exact k_Mo_heard_b68 C0 s0 v1 v2 v4 v3 hk5 hP hf _ (lv_sub hl [0, 1, 2, 4] rfl)
        · have hf := zif_t hb_6 hf
          refine lv_aload_n hx hb dX11_heard_50 rfl (lv_at hl 0 rfl) ?_
          refine lv_iload hx hb dX11_heard_51 (lv_at hl 4 rfl) ?_
          refine lv_iload_n hx hb dX11_heard_53 rfl (lv_at hl 1 rfl) ?_
          refine lv_aload_n hx hb dX11_heard_54 rfl (lv_at hl 0 rfl) ?_
          refine zget (v := .int (zI s0 36)) hx hb hown hT hK hP inX11 rfl smX11 0 rfl 36 (by decide) tb_1038 rfl dX11_heard_55 ?_
          refine lv_aload_n hx hb dX11_heard_58 rfl (lv_at hl 0 rfl) ?_
          refine zget (v := .int (zI s0 37)) hx hb hown hT hK hP inX11 rfl smX11 0 rfl 37 (by decide) tb_1039 rfl dX11_heard_59 ?_
          obtain ⟨z7, hc8, hf⟩ := zbd_some hf
          refine zri (zV (As := [.int v4, .int v1, .int (zI s0 36), .int (zI s0 37)]) hx hb hml hown hT hl.1 (c_Mo_loudAt o0 a0 s0 v4 v1 (zI s0 36) (zI s0 37) hc8) zY_Mo_loudAt tb_1344 (zpR hK hP [0, 2, 3] rfl 0 11 rfl rfl rfl) rm_ok_Mo_heard_Mo_loudAt rfl rfl (Nat.le_of_ble_eq_true rfl) dX11_heard_62 ⟨Nat.zero_le _, Nat.zero_le _⟩) ?_
          refine lv_goto (tgt := 69) hx hb dX11_heard_65 (by decide) ?_
          exact k_Mo_heard_b69 C0 s0 v1 v2 v4 v3 z7 hk5 hP hf _ (lv_sub hl [0, 1, 2, 4] rfl)
set_option maxHeartbeats 4000000 in
set_option maxRecDepth 100000 in
theorem k_Mo_heard_h5 {p : Program} {l : Launch} {e : Env} {s : State} {m : MethodId} {args : Array Value} {below : List Frame} {meth : Method} {c : Code} {dC : Nat → ClassId} {dI : Nat → Nat → Nat} {cy : Nat → ClassId} {o0 : Nat} {a0 : Nat → Nat} {N : Nat} {y : Int32} (C0 : zCx p s m args meth c cX11_heard 5 (some .int) RX11 (dC, dI) cy) (s0 : zSt) (v1 : Int32) (v2 : Int32) (hP : va_P (dC, dI) vwCl (wd_Mo_heard cy o0 a0 (zI s0) (zL s0) (zA s0 16) (zA s0 17) (zA s0 19) (zA s0 33)) s.heap) : ∀ (n : Nat) (v3 : Int32) (v4 : Int32) (hf : Mo_heard_h5 N s0 v1 v2 n v3 v4 = some y) (ls : Array Slot) (hl : lv_has ls 5 [(0, .ref o0), (1, .int v1), (2, .int v2), (3, .int v3), (4, .int v4)]), W p l e rm_Mo_heard s m args below meth c s.heap [] 0 0 (MQ below (zSi y) args s 0 0 (fun _ => False)) (F0 m 5 ls []) := by
  intro n
  induction n with
  | zero => intro v3 v4 hf; cases hf
  | succ n ih =>
    intro v3 v4 hf ls hl
    have hf : Mo_heard_b5 N (Mo_heard_h5 N s0 v1 v2 n) s0 v1 v2 v3 v4 = some y := hf
    exact k_Mo_heard_b5 C0 s0 v1 v2 v3 v4 (fun v3 v4 hf ls hl => ih v3 v4 hf ls hl) hP hf ls hl
set_option maxHeartbeats 4000000 in
set_option maxRecDepth 100000 in
theorem k_Mo_heard_b0 {p : Program} {l : Launch} {e : Env} {s : State} {m : MethodId} {args : Array Value} {below : List Frame} {meth : Method} {c : Code} {dC : Nat → ClassId} {dI : Nat → Nat → Nat} {cy : Nat → ClassId} {o0 : Nat} {a0 : Nat → Nat} {N : Nat} {y : Int32} (C0 : zCx p s m args meth c cX11_heard 5 (some .int) RX11 (dC, dI) cy) (s0 : zSt) (v1 : Int32) (v2 : Int32) (hP : va_P (dC, dI) vwCl (wd_Mo_heard cy o0 a0 (zI s0) (zL s0) (zA s0 16) (zA s0 17) (zA s0 19) (zA s0 33)) s.heap) (hf : Mo_heard_b0 N s0 v1 v2 = some y) (ls : Array Slot) (hl : lv_has ls 5 [(0, .ref o0), (1, .int v1), (2, .int v2)]) : W p l e rm_Mo_heard s m args below meth c s.heap [] 0 0 (MQ below (zSi y) args s 0 0 (fun _ => False)) (F0 m 0 ls []) := by
  obtain ⟨hx, hb, hr, hml, hown, hT, hk, hK⟩ := id C0
  refine lv_iconst (v := 0) hx hb dX11_heard_0 (by decide) ?_
  refine lv_istore_n (lv' := [(3, .int 0), (0, .ref o0), (1, .int v1), (2, .int v2)]) hx hb dX11_heard_1 rfl hl (by decide) rfl (fun ls hl => ?_)
  refine lv_iconst (v := 0) hx hb dX11_heard_2 (by decide) ?_
  refine lv_istore (lv' := [(4, .int 0), (3, .int 0), (0, .ref o0), (1, .int v1), (2, .int v2)]) hx hb dX11_heard_3 hl (by decide) rfl (fun ls hl => ?_)
  exact k_Mo_heard_h5 C0 s0 v1 v2  hP N 0 0 hf _ (lv_sub hl [2, 3, 4, 1, 0] rfl)
set_option maxHeartbeats 4000000 in
set_option maxRecDepth 100000 in
theorem c_Mo_heard {l : Launch} {dC : Nat → ClassId} {dI : Nat → Nat → Nat} {cy : Nat → ClassId} {N : Nat} (o0 : Nat) (a0 : Nat → Nat) (s0 : zSt) (v1 : Int32) (v2 : Int32) {y : Int32} (hf : Mo_heard N s0 v1 v2 = some y) : Met l yX11_heard (.code yX11_heard cX11_heard 5 (some .int) :: zt) rm_Mo_heard (va_Pc [.ref o0, .int v1, .int v2] (zRd (dC, dI) cy (wd_Mo_heard cy o0 a0 (zI s0) (zL s0) (zA s0 16) (zA s0 17) (zA s0 19) (zA s0 33)))) (zSi y) 0 0 (fun _ => False) :=
  zentR (by decide +kernel) (Nat.le_of_ble_eq_true rfl) (fun p e s m below meth c C0 hP ls hl => k_Mo_heard_b0 C0 s0 v1 v2 hP hf ls hl)
def wd_Mo_isTone (cy : Nat → ClassId) : va_W := []
def rm_Mo_isTone : Room := { frames := 2, cells := 0, slots := 0, locals := 62 }
theorem rm_ok_Mo_isTone_Mo_isIn : rm_Mo_isIn.cells = 0 ∧ rm_Mo_isIn.slots = 0 ∧ rm_Mo_isIn.frames + 1 ≤ rm_Mo_isTone.frames ∧ 8 + (3 + 11) + rm_Mo_isIn.locals ≤ rm_Mo_isTone.locals := by decide
set_option maxHeartbeats 4000000 in
set_option maxRecDepth 100000 in
theorem k_Mo_isTone_b0 {p : Program} {l : Launch} {e : Env} {s : State} {m : MethodId} {args : Array Value} {below : List Frame} {meth : Method} {c : Code} {dC : Nat → ClassId} {dI : Nat → Nat → Nat} {cy : Nat → ClassId} {N : Nat} {y : Int32} (C0 : zCx p s m args meth c cX11_isTone 1 (some .boolean) RX11 (dC, dI) cy) (v0 : Int32) (hP : va_P (dC, dI) vwCl (wd_Mo_isTone cy) s.heap) (hf : Mo_isTone_b0 N v0 = some y) (ls : Array Slot) (hl : lv_has ls 1 [(0, .int v0)]) : W p l e rm_Mo_isTone s m args below meth c s.heap [] 0 0 (MQ below (zSi y) args s 0 0 (fun _ => False)) (F0 m 0 ls []) := by
  obtain ⟨hx, hb, hr, hml, hown, hT, hk, hK⟩ := id C0
  refine lv_iload_n hx hb dX11_isTone_0 rfl (lv_at hl 0 rfl) ?_
  refine lv_iconst (v := 0) hx hb dX11_isTone_1 (by decide) ?_
  refine lv_bipush (v := 11) hx hb dX11_isTone_2 (by decide) ?_
  obtain ⟨z1, hc2, hf⟩ := zbd_some hf
  refine zri (zS (As := [.int v0, .int 0, .int 11]) hx hb hml hown hT hl.1 (c_Mo_isIn v0 0 11 hc2) zY_Mo_isIn tb_1319 (zpS hK hP [] rfl) rm_ok_Mo_isTone_Mo_isIn rfl rfl (Nat.le_of_ble_eq_true rfl) dX11_isTone_4 ⟨Nat.zero_le _, Nat.zero_le _⟩) ?_
  obtain ⟨hq3, hf⟩ := zcb_some hf
  cases hf
  exact zerz hx hb hr hk hq3 dX11_isTone_7
set_option maxHeartbeats 4000000 in
set_option maxRecDepth 100000 in
theorem c_Mo_isTone {l : Launch} {dC : Nat → ClassId} {dI : Nat → Nat → Nat} {cy : Nat → ClassId} {N : Nat} (v0 : Int32) {y : Int32} (hf : Mo_isTone N v0 = some y) : Met l yX11_isTone (.code yX11_isTone cX11_isTone 1 (some .boolean) :: zt) rm_Mo_isTone (va_Pc [.int v0] (zRd (dC, dI) cy (wd_Mo_isTone cy))) (zSi y) 0 0 (fun _ => False) :=
  zentR (by decide +kernel) (Nat.le_of_ble_eq_true rfl) (fun p e s m below meth c C0 hP ls hl => k_Mo_isTone_b0 C0 v0 hP hf ls hl)
def wd_Mo_hear (cy : Nat → ClassId) (o0 : Nat) (a0 : Nat → Nat) (g0 : Nat → Int32) (h0 : Nat → Int64) (x0_16 : Nat → Int32) (x0_17 : Nat → Int32) (x0_19 : Nat → Int32) (x0_33 : Nat → Int32) : va_W := [(o0, .inr (11, fs_Mo a0 g0 h0)), (a0 16, .inl (cy 0, 11, .inl x0_16)), (a0 17, .inl (cy 0, 11, .inl x0_17)), (a0 19, .inl (cy 0, 4, .inl x0_19)), (a0 33, .inl (cy 0, 11, .inl x0_33))]
def rm_Mo_hear : Room := { frames := 4, cells := 0, slots := 0, locals := 105 }
theorem rm_ok_Mo_hear_Mo_heard : rm_Mo_heard.cells = 0 ∧ rm_Mo_heard.slots = 0 ∧ rm_Mo_heard.frames + 1 ≤ rm_Mo_hear.frames ∧ 8 + (5 + 11) + rm_Mo_heard.locals ≤ rm_Mo_hear.locals := by decide
theorem rm_ok_Mo_hear_Mo_isEar : rm_Mo_isEar.cells = 0 ∧ rm_Mo_isEar.slots = 0 ∧ rm_Mo_isEar.frames + 1 ≤ rm_Mo_hear.frames ∧ 8 + (2 + 11) + rm_Mo_isEar.locals ≤ rm_Mo_hear.locals := by decide
theorem rm_ok_Mo_hear_Mo_isTone : rm_Mo_isTone.cells = 0 ∧ rm_Mo_isTone.slots = 0 ∧ rm_Mo_isTone.frames + 1 ≤ rm_Mo_hear.frames ∧ 8 + (1 + 11) + rm_Mo_isTone.locals ≤ rm_Mo_hear.locals := by decide
set_option maxHeartbeats 4000000 in
set_option maxRecDepth 100000 in
theorem k_Mo_hear_b0 {p : Program} {l : Launch} {e : Env} {s : State} {m : MethodId} {args : Array Value} {below : List Frame} {meth : Method} {c : Code} {dC : Nat → ClassId} {dI : Nat → Nat → Nat} {cy : Nat → ClassId} {o0 : Nat} {a0 : Nat → Nat} {N : Nat} {y : Int32} (C0 : zCx p s m args meth c cX11_hear 3 (some .int) RX11 (dC, dI) cy) (s0 : zSt) (v1 : Int32) (v2 : Int32) (hP : va_P (dC, dI) vwCl (wd_Mo_hear cy o0 a0 (zI s0) (zL s0) (zA s0 16) (zA s0 17) (zA s0 19) (zA s0 33)) s.heap) (hf : Mo_hear_b0 N s0 v1 v2 = some y) (ls : Array Slot) (hl : lv_has ls 3 [(0, .ref o0), (1, .int v1), (2, .int v2)]) : W p l e rm_Mo_hear s m args below meth c s.heap [] 0 0 (MQ below (zSi y) args s 0 0 (fun _ => False)) (F0 m 0 ls []) := by
  obtain ⟨hx, hb, hr, hml, hown, hT, hk, hK⟩ := id C0
  refine lv_aload_n hx hb dX11_hear_0 rfl (lv_at hl 0 rfl) ?_
  refine lv_iload_n hx hb dX11_hear_1 rfl (lv_at hl 1 rfl) ?_
  obtain ⟨z1, hc2, hf⟩ := zbd_some hf
  refine zri (zV (As := [.int v1]) hx hb hml hown hT hl.1 (c_Mo_isEar o0 a0 s0 v1 hc2) zY_Mo_isEar tb_1333 (zpR hK hP [0] rfl 0 11 rfl rfl rfl) rm_ok_Mo_hear_Mo_isEar rfl rfl (Nat.le_of_ble_eq_true rfl) dX11_hear_2 ⟨Nat.zero_le _, Nat.zero_le _⟩) ?_
  refine lv_if_eq (tgt := 24) hx hb dX11_hear_5 (by decide) (fun hb_3 => ?_) (fun hb_3 => ?_)
  · have hf := zif_t hb_3 hf
    refine lv_iconst (v := (-1)) hx hb dX11_hear_24 (by decide) ?_
    cases hf
    exact zeri hx hb hr hk dX11_hear_25
  · have hf := zif_f hb_3 hf
    refine lv_iload_n hx hb dX11_hear_8 rfl (lv_at hl 2 rfl) ?_
    obtain ⟨z4, hc5, hf⟩ := zbd_some hf
    refine zri (zS (As := [.int v2]) hx hb hml hown hT hl.1 (c_Mo_isTone v2 hc5) zY_Mo_isTone tb_1337 (zpS hK hP [] rfl) rm_ok_Mo_hear_Mo_isTone rfl rfl (Nat.le_of_ble_eq_true rfl) dX11_hear_9 ⟨Nat.zero_le _, Nat.zero_le _⟩) ?_
    refine lv_if_eq (tgt := 24) hx hb dX11_hear_12 (by decide) (fun hb_6 => ?_) (fun hb_6 => ?_)
    · have hf := zif_t hb_6 hf
      refine lv_iconst (v := (-1)) hx hb dX11_hear_24 (by decide) ?_
      cases hf
      exact zeri hx hb hr hk dX11_hear_25
    · have hf := zif_f hb_6 hf
      refine lv_aload_n hx hb dX11_hear_15 rfl (lv_at hl 0 rfl) ?_
      refine lv_iload_n hx hb dX11_hear_16 rfl (lv_at hl 1 rfl) ?_
      refine lv_iload_n hx hb dX11_hear_17 rfl (lv_at hl 2 rfl) ?_
      obtain ⟨z7, hc8, hf⟩ := zbd_some hf
      refine zri (zV (As := [.int v1, .int v2]) hx hb hml hown hT hl.1 (c_Mo_heard o0 a0 s0 v1 v2 hc8) zY_Mo_heard tb_1340 (zpR hK hP [0, 1, 2, 3, 4] rfl 0 11 rfl rfl rfl) rm_ok_Mo_hear_Mo_heard rfl rfl (Nat.le_of_ble_eq_true rfl) dX11_hear_18 ⟨Nat.zero_le _, Nat.zero_le _⟩) ?_
      refine lv_goto (tgt := 25) hx hb dX11_hear_21 (by decide) ?_
      cases hf
      exact zeri hx hb hr hk dX11_hear_25
set_option maxHeartbeats 4000000 in
set_option maxRecDepth 100000 in
theorem c_Mo_hear {l : Launch} {dC : Nat → ClassId} {dI : Nat → Nat → Nat} {cy : Nat → ClassId} {N : Nat} (o0 : Nat) (a0 : Nat → Nat) (s0 : zSt) (v1 : Int32) (v2 : Int32) {y : Int32} (hf : Mo_hear N s0 v1 v2 = some y) : Met l yX11_hear (.code yX11_hear cX11_hear 3 (some .int) :: zt) rm_Mo_hear (va_Pc [.ref o0, .int v1, .int v2] (zRd (dC, dI) cy (wd_Mo_hear cy o0 a0 (zI s0) (zL s0) (zA s0 16) (zA s0 17) (zA s0 19) (zA s0 33)))) (zSi y) 0 0 (fun _ => False) :=
  zentR (by decide +kernel) (Nat.le_of_ble_eq_true rfl) (fun p e s m below meth c C0 hP ls hl => k_Mo_hear_b0 C0 s0 v1 v2 hP hf ls hl)
def wd_Mo_chord (cy : Nat → ClassId) (o0 : Nat) (a0 : Nat → Nat) (g0 : Nat → Int32) (h0 : Nat → Int64) (x0_16 : Nat → Int32) (x0_17 : Nat → Int32) (x0_19 : Nat → Int32) (x0_33 : Nat → Int32) : va_W := [(o0, .inr (11, fs_Mo a0 g0 h0)), (a0 16, .inl (cy 0, 11, .inl x0_16)), (a0 17, .inl (cy 0, 11, .inl x0_17)), (a0 19, .inl (cy 0, 4, .inl x0_19)), (a0 33, .inl (cy 0, 11, .inl x0_33))]
def rm_Mo_chord : Room := { frames := 4, cells := 0, slots := 0, locals := 105 }
theorem rm_ok_Mo_chord_Mo_heard : rm_Mo_heard.cells = 0 ∧ rm_Mo_heard.slots = 0 ∧ rm_Mo_heard.frames + 1 ≤ rm_Mo_chord.frames ∧ 8 + (5 + 11) + rm_Mo_heard.locals ≤ rm_Mo_chord.locals := by decide
theorem rm_ok_Mo_chord_Mo_isEar : rm_Mo_isEar.cells = 0 ∧ rm_Mo_isEar.slots = 0 ∧ rm_Mo_isEar.frames + 1 ≤ rm_Mo_chord.frames ∧ 8 + (2 + 11) + rm_Mo_isEar.locals ≤ rm_Mo_chord.locals := by decide
set_option maxHeartbeats 4000000 in
set_option maxRecDepth 100000 in
theorem k_Mo_chord_b37 {p : Program} {l : Launch} {e : Env} {s : State} {m : MethodId} {args : Array Value} {below : List Frame} {meth : Method} {c : Code} {dC : Nat → ClassId} {dI : Nat → Nat → Nat} {cy : Nat → ClassId} {o0 : Nat} {a0 : Nat → Nat} {N : Nat} {kh14 : Int32 → Int32 → Option (Int32)} {y : Int32} (C0 : zCx p s m args meth c cX11_chord 4 (some .int) RX11 (dC, dI) cy) (s0 : zSt) (v1 : Int32) (v3 : Int32) (t0 : Int32) (t1 : Int32) (hk14 : ∀ (v2 : Int32) (v3 : Int32) (_ : kh14 v2 v3 = some y) (ls : Array Slot) (_ : lv_has ls 4 [(0, .ref o0), (1, .int v1), (2, .int v2), (3, .int v3)]), W p l e rm_Mo_chord s m args below meth c s.heap [] 0 0 (MQ below (zSi y) args s 0 0 (fun _ => False)) (F0 m 14 ls [])) (hP : va_P (dC, dI) vwCl (wd_Mo_chord cy o0 a0 (zI s0) (zL s0) (zA s0 16) (zA s0 17) (zA s0 19) (zA s0 33)) s.heap) (hf : Mo_chord_b37 N kh14 s0 v1 v3 t0 t1 = some y) (ls : Array Slot) (hl : lv_has ls 4 [(0, .ref o0), (1, .int v1), (3, .int v3)]) : W p l e rm_Mo_chord s m args below meth c s.heap [] 0 0 (MQ below (zSi y) args s 0 0 (fun _ => False)) (F0 m 37 ls [.int t1, .int t0]) := by
  obtain ⟨hx, hb, hr, hml, hown, hT, hk, hK⟩ := id C0
  refine lv_ior hx hb dX11_chord_37 ?_
  refine lv_istore_n (lv' := [(2, .int (t0 ||| t1)), (0, .ref o0), (1, .int v1), (3, .int v3)]) hx hb dX11_chord_38 rfl hl (by decide) rfl (fun ls hl => ?_)
  refine lv_iinc (v := v3 + 1) (lv' := [(3, .int (v3 + 1)), (2, .int (t0 ||| t1)), (0, .ref o0), (1, .int v1)]) hx hb dX11_chord_39 hl (k := 3) rfl rfl (by decide) rfl (fun ls hl => ?_)
  refine lv_goto (tgt := 14) hx hb dX11_chord_42 (by decide) ?_
  exact hk14 (t0 ||| t1) (v3 + 1) hf _ (lv_sub hl [2, 3, 1, 0] rfl)
set_option maxHeartbeats 4000000 in
set_option maxRecDepth 100000 in
theorem k_Mo_chord_b14 {p : Program} {l : Launch} {e : Env} {s : State} {m : MethodId} {args : Array Value} {below : List Frame} {meth : Method} {c : Code} {dC : Nat → ClassId} {dI : Nat → Nat → Nat} {cy : Nat → ClassId} {o0 : Nat} {a0 : Nat → Nat} {N : Nat} {kh14 : Int32 → Int32 → Option (Int32)} {y : Int32} (C0 : zCx p s m args meth c cX11_chord 4 (some .int) RX11 (dC, dI) cy) (s0 : zSt) (v1 : Int32) (v2 : Int32) (v3 : Int32) (hk14 : ∀ (v2 : Int32) (v3 : Int32) (_ : kh14 v2 v3 = some y) (ls : Array Slot) (_ : lv_has ls 4 [(0, .ref o0), (1, .int v1), (2, .int v2), (3, .int v3)]), W p l e rm_Mo_chord s m args below meth c s.heap [] 0 0 (MQ below (zSi y) args s 0 0 (fun _ => False)) (F0 m 14 ls [])) (hP : va_P (dC, dI) vwCl (wd_Mo_chord cy o0 a0 (zI s0) (zL s0) (zA s0 16) (zA s0 17) (zA s0 19) (zA s0 33)) s.heap) (hf : Mo_chord_b14 N kh14 s0 v1 v2 v3 = some y) (ls : Array Slot) (hl : lv_has ls 4 [(0, .ref o0), (1, .int v1), (2, .int v2), (3, .int v3)]) : W p l e rm_Mo_chord s m args below meth c s.heap [] 0 0 (MQ below (zSi y) args s 0 0 (fun _ => False)) (F0 m 14 ls []) := by
  obtain ⟨hx, hb, hr, hml, hown, hT, hk, hK⟩ := id C0
  refine lv_iload_n hx hb dX11_chord_14 rfl (lv_at hl 3 rfl) ?_
  refine lv_bipush (v := 12) hx hb dX11_chord_15 (by decide) ?_
  refine lv_icmp_ge (tgt := 45) hx hb dX11_chord_17 (by decide) (fun hb_1 => ?_) (fun hb_1 => ?_)
  · have hf := zif_t hb_1 hf
    refine lv_iload_n hx hb dX11_chord_45 rfl (lv_at hl 2 rfl) ?_
    cases hf
    exact zeri hx hb hr hk dX11_chord_46
  · have hf := zif_f hb_1 hf
    refine lv_iload_n hx hb dX11_chord_20 rfl (lv_at hl 2 rfl) ?_
    refine lv_aload_n hx hb dX11_chord_21 rfl (lv_at hl 0 rfl) ?_
    refine lv_iload_n hx hb dX11_chord_22 rfl (lv_at hl 1 rfl) ?_
    refine lv_iload_n hx hb dX11_chord_23 rfl (lv_at hl 3 rfl) ?_
    obtain ⟨z2, hc3, hf⟩ := zbd_some hf
    refine zri (zV (As := [.int v1, .int v3]) hx hb hml hown hT hl.1 (c_Mo_heard o0 a0 s0 v1 v3 hc3) zY_Mo_heard tb_1340 (zpR hK hP [0, 1, 2, 3, 4] rfl 0 11 rfl rfl rfl) rm_ok_Mo_chord_Mo_heard rfl rfl (Nat.le_of_ble_eq_true rfl) dX11_chord_24 ⟨Nat.zero_le _, Nat.zero_le _⟩) ?_
    refine lv_if_le (tgt := 36) hx hb dX11_chord_27 (by decide) (fun hb_4 => ?_) (fun hb_4 => ?_)
    · have hf := zif_t hb_4 hf
      refine lv_iconst (v := 0) hx hb dX11_chord_36 (by decide) ?_
      exact k_Mo_chord_b37 C0 s0 v1 v3 v2 0 hk14 hP hf _ (lv_sub hl [0, 1, 3] rfl)
    · have hf := zif_f hb_4 hf
      refine lv_iconst (v := 1) hx hb dX11_chord_30 (by decide) ?_
      refine lv_iload_n hx hb dX11_chord_31 rfl (lv_at hl 3 rfl) ?_
      refine lv_ishl hx hb dX11_chord_32 ?_
      refine lv_goto (tgt := 37) hx hb dX11_chord_33 (by decide) ?_
      exact k_Mo_chord_b37 C0 s0 v1 v3 v2 ((1 : Int32) <<< (v3 &&& 31)) hk14 hP hf _ (lv_sub hl [0, 1, 3] rfl)
set_option maxHeartbeats 4000000 in
set_option maxRecDepth 100000 in
theorem k_Mo_chord_h14 {p : Program} {l : Launch} {e : Env} {s : State} {m : MethodId} {args : Array Value} {below : List Frame} {meth : Method} {c : Code} {dC : Nat → ClassId} {dI : Nat → Nat → Nat} {cy : Nat → ClassId} {o0 : Nat} {a0 : Nat → Nat} {N : Nat} {y : Int32} (C0 : zCx p s m args meth c cX11_chord 4 (some .int) RX11 (dC, dI) cy) (s0 : zSt) (v1 : Int32) (hP : va_P (dC, dI) vwCl (wd_Mo_chord cy o0 a0 (zI s0) (zL s0) (zA s0 16) (zA s0 17) (zA s0 19) (zA s0 33)) s.heap) : ∀ (n : Nat) (v2 : Int32) (v3 : Int32) (hf : Mo_chord_h14 N s0 v1 n v2 v3 = some y) (ls : Array Slot) (hl : lv_has ls 4 [(0, .ref o0), (1, .int v1), (2, .int v2), (3, .int v3)]), W p l e rm_Mo_chord s m args below meth c s.heap [] 0 0 (MQ below (zSi y) args s 0 0 (fun _ => False)) (F0 m 14 ls []) := by
  intro n
  induction n with
  | zero => intro v2 v3 hf; cases hf
  | succ n ih =>
    intro v2 v3 hf ls hl
    have hf : Mo_chord_b14 N (Mo_chord_h14 N s0 v1 n) s0 v1 v2 v3 = some y := hf
    exact k_Mo_chord_b14 C0 s0 v1 v2 v3 (fun v2 v3 hf ls hl => ih v2 v3 hf ls hl) hP hf ls hl
set_option maxHeartbeats 4000000 in
set_option maxRecDepth 100000 in
theorem k_Mo_chord_b0 {p : Program} {l : Launch} {e : Env} {s : State} {m : MethodId} {args : Array Value} {below : List Frame} {meth : Method} {c : Code} {dC : Nat → ClassId} {dI : Nat → Nat → Nat} {cy : Nat → ClassId} {o0 : Nat} {a0 : Nat → Nat} {N : Nat} {y : Int32} (C0 : zCx p s m args meth c cX11_chord 4 (some .int) RX11 (dC, dI) cy) (s0 : zSt) (v1 : Int32) (hP : va_P (dC, dI) vwCl (wd_Mo_chord cy o0 a0 (zI s0) (zL s0) (zA s0 16) (zA s0 17) (zA s0 19) (zA s0 33)) s.heap) (hf : Mo_chord_b0 N s0 v1 = some y) (ls : Array Slot) (hl : lv_has ls 4 [(0, .ref o0), (1, .int v1)]) : W p l e rm_Mo_chord s m args below meth c s.heap [] 0 0 (MQ below (zSi y) args s 0 0 (fun _ => False)) (F0 m 0 ls []) := by
  obtain ⟨hx, hb, hr, hml, hown, hT, hk, hK⟩ := id C0
  refine lv_aload_n hx hb dX11_chord_0 rfl (lv_at hl 0 rfl) ?_
  refine lv_iload_n hx hb dX11_chord_1 rfl (lv_at hl 1 rfl) ?_
  obtain ⟨z1, hc2, hf⟩ := zbd_some hf
  refine zri (zV (As := [.int v1]) hx hb hml hown hT hl.1 (c_Mo_isEar o0 a0 s0 v1 hc2) zY_Mo_isEar tb_1333 (zpR hK hP [0] rfl 0 11 rfl rfl rfl) rm_ok_Mo_chord_Mo_isEar rfl rfl (Nat.le_of_ble_eq_true rfl) dX11_chord_2 ⟨Nat.zero_le _, Nat.zero_le _⟩) ?_
  refine lv_if_ne (tgt := 10) hx hb dX11_chord_5 (by decide) (fun hb_3 => ?_) (fun hb_3 => ?_)
  · have hf := zif_f hb_3 hf
    refine lv_iconst (v := 0) hx hb dX11_chord_10 (by decide) ?_
    refine lv_istore_n (lv' := [(2, .int 0), (0, .ref o0), (1, .int v1)]) hx hb dX11_chord_11 rfl hl (by decide) rfl (fun ls hl => ?_)
    refine lv_iconst (v := 0) hx hb dX11_chord_12 (by decide) ?_
    refine lv_istore_n (lv' := [(3, .int 0), (2, .int 0), (0, .ref o0), (1, .int v1)]) hx hb dX11_chord_13 rfl hl (by decide) rfl (fun ls hl => ?_)
    exact k_Mo_chord_h14 C0 s0 v1  hP N 0 0 hf _ (lv_sub hl [2, 3, 1, 0] rfl)
  · have hf := zif_t hb_3 hf
    refine lv_iconst (v := (-1)) hx hb dX11_chord_8 (by decide) ?_
    cases hf
    exact zeri hx hb hr hk dX11_chord_9
set_option maxHeartbeats 4000000 in
set_option maxRecDepth 100000 in
theorem c_Mo_chord {l : Launch} {dC : Nat → ClassId} {dI : Nat → Nat → Nat} {cy : Nat → ClassId} {N : Nat} (o0 : Nat) (a0 : Nat → Nat) (s0 : zSt) (v1 : Int32) {y : Int32} (hf : Mo_chord N s0 v1 = some y) : Met l yX11_chord (.code yX11_chord cX11_chord 4 (some .int) :: zt) rm_Mo_chord (va_Pc [.ref o0, .int v1] (zRd (dC, dI) cy (wd_Mo_chord cy o0 a0 (zI s0) (zL s0) (zA s0 16) (zA s0 17) (zA s0 19) (zA s0 33)))) (zSi y) 0 0 (fun _ => False) :=
  zentR (by decide +kernel) (Nat.le_of_ble_eq_true rfl) (fun p e s m below meth c C0 hP ls hl => k_Mo_chord_b0 C0 s0 v1 hP hf ls hl)
def wd_Mo_comes (cy : Nat → ClassId) (o0 : Nat) (a0 : Nat → Nat) (g0 : Nat → Int32) (h0 : Nat → Int64) : va_W := [(o0, .inr (11, fs_Mo a0 g0 h0))]
def rm_Mo_comes : Room := { frames := 3, cells := 0, slots := 0, locals := 83 }
theorem rm_ok_Mo_comes_Mo_isBell : rm_Mo_isBell.cells = 0 ∧ rm_Mo_isBell.slots = 0 ∧ rm_Mo_isBell.frames + 1 ≤ rm_Mo_comes.frames ∧ 8 + (2 + 11) + rm_Mo_isBell.locals ≤ rm_Mo_comes.locals := by decide
set_option maxHeartbeats 4000000 in
set_option maxRecDepth 100000 in
theorem k_Mo_comes_b25 {p : Program} {l : Launch} {e : Env} {s : State} {m : MethodId} {args : Array Value} {below : List Frame} {meth : Method} {c : Code} {dC : Nat → ClassId} {dI : Nat → Nat → Nat} {cy : Nat → ClassId} {A : Nat → Prop} {o0 : Nat} {a0 : Nat → Nat} {N : Nat} {y : Int32 × zSt} (C0 : zCx p s m args meth c cX11_comes 3 (some .boolean) RX11 (dC, dI) cy) (s0 : zSt) (v1 : Int32) (t0 : Int32) (t1 : Int32) (hA : ∀ q, s.heap.size ≤ q → A q) {H : Heap} {locs : List Loc} (hP : va_P (dC, dI) vwCl (wd_Mo_comes cy o0 a0 (zI s0) (zL s0)) H) (hD : va_D A (wd_Mo_comes cy o0 a0 (zI s0) (zL s0))) (hS : va_S A s.heap H locs) (hf : Mo_comes_b25 N s0 v1 t0 t1 = some y) (ls : Array Slot) (hl : lv_has ls 3 [(0, .ref o0), (1, .int v1)]) : W p l e rm_Mo_comes s m args below meth c H locs 0 0 (MQ below (zQi y.1 (dC, dI) cy (wd_Mo_comes cy o0 a0 (zI y.2) (zL y.2)) A) args s 0 0 A) (F0 m 25 ls [.int t1, .int t0]) := by
  obtain ⟨hx, hb, hr, hml, hown, hT, hk, hK⟩ := id C0
  refine lv_icmp_ne (tgt := 30) hx hb dX11_comes_25 (by decide) (fun hb_1 => ?_) (fun hb_1 => ?_)
  · have hf := zif_f hb_1 hf
    refine lv_aload_n hx hb dX11_comes_30 rfl (lv_at hl 0 rfl) ?_
    refine lv_dup hx hb dX11_comes_31 rfl ?_
    refine zget (v := .int (zI s0 34)) hx hb hown hT hK hP inX11 rfl smX11 0 rfl 34 (by decide) tb_1036 rfl dX11_comes_32 ?_
    refine lv_iconst (v := 1) hx hb dX11_comes_35 (by decide) ?_
    refine lv_iload_n hx hb dX11_comes_36 rfl (lv_at hl 1 rfl) ?_
    refine lv_ishl hx hb dX11_comes_37 ?_
    refine lv_ixor hx hb dX11_comes_38 ?_
    refine zput (fs' := fs_Mo a0 (upd (zI s0) 34 ((zI s0 34) ^^^ ((1 : Int32) <<< (v1 &&& 31)))) (zL s0)) (ws' := (wd_Mo_comes cy o0 a0 (upd (zI s0) 34 ((zI s0 34) ^^^ ((1 : Int32) <<< (v1 &&& 31)))) (zL s0))) hx hb hown hT hK hP hD hS inX11 rfl smX11 tyX11_ok nmX11 0 rfl 34 (by decide) tb_1036 rfl rfl rfl (Nat.le_of_ble_eq_true rfl) rfl rfl dX11_comes_39 (fun H locs hP hD hS => ?_)
    refine lv_aload_n hx hb dX11_comes_42 rfl (lv_at hl 0 rfl) ?_
    refine lv_dup hx hb dX11_comes_43 rfl ?_
    refine zget (v := .int (zI s0 35)) hx hb hown hT hK hP inX11 rfl smX11 0 rfl 35 (by decide) tb_1037 rfl dX11_comes_44 ?_
    refine lv_aload_n hx hb dX11_comes_47 rfl (lv_at hl 0 rfl) ?_
    refine zget (v := .int ((zI s0 34) ^^^ ((1 : Int32) <<< (v1 &&& 31)))) hx hb hown hT hK hP inX11 rfl smX11 0 rfl 34 (by decide) tb_1036 rfl dX11_comes_48 ?_
    refine lv_iand hx hb dX11_comes_51 ?_
    refine zput (fs' := fs_Mo a0 (upd (upd (zI s0) 34 ((zI s0 34) ^^^ ((1 : Int32) <<< (v1 &&& 31)))) 35 ((zI s0 35) &&& ((zI s0 34) ^^^ ((1 : Int32) <<< (v1 &&& 31))))) (zL s0)) (ws' := (wd_Mo_comes cy o0 a0 (upd (upd (zI s0) 34 ((zI s0 34) ^^^ ((1 : Int32) <<< (v1 &&& 31)))) 35 ((zI s0 35) &&& ((zI s0 34) ^^^ ((1 : Int32) <<< (v1 &&& 31))))) (zL s0))) hx hb hown hT hK hP hD hS inX11 rfl smX11 tyX11_ok nmX11 0 rfl 35 (by decide) tb_1037 rfl rfl rfl (Nat.le_of_ble_eq_true rfl) rfl rfl dX11_comes_52 (fun H locs hP hD hS => ?_)
    refine lv_iconst (v := 1) hx hb dX11_comes_55 (by decide) ?_
    cases hf
    exact zewz hx hb hr hk (Or.inr rfl) hK hP hD hS dX11_comes_56
  · have hf := zif_t hb_1 hf
    refine lv_iconst (v := 0) hx hb dX11_comes_28 (by decide) ?_
    cases hf
    exact zewz hx hb hr hk (Or.inl rfl) hK hP hD hS dX11_comes_29
set_option maxHeartbeats 4000000 in
set_option maxRecDepth 100000 in
theorem k_Mo_comes_b0 {p : Program} {l : Launch} {e : Env} {s : State} {m : MethodId} {args : Array Value} {below : List Frame} {meth : Method} {c : Code} {dC : Nat → ClassId} {dI : Nat → Nat → Nat} {cy : Nat → ClassId} {A : Nat → Prop} {o0 : Nat} {a0 : Nat → Nat} {N : Nat} {y : Int32 × zSt} (C0 : zCx p s m args meth c cX11_comes 3 (some .boolean) RX11 (dC, dI) cy) (s0 : zSt) (v1 : Int32) (v2 : Int32) (hA : ∀ q, s.heap.size ≤ q → A q) {H : Heap} {locs : List Loc} (hP : va_P (dC, dI) vwCl (wd_Mo_comes cy o0 a0 (zI s0) (zL s0)) H) (hD : va_D A (wd_Mo_comes cy o0 a0 (zI s0) (zL s0))) (hS : va_S A s.heap H locs) (hf : Mo_comes_b0 N s0 v1 v2 = some y) (ls : Array Slot) (hl : lv_has ls 3 [(0, .ref o0), (1, .int v1), (2, .int v2)]) : W p l e rm_Mo_comes s m args below meth c H locs 0 0 (MQ below (zQi y.1 (dC, dI) cy (wd_Mo_comes cy o0 a0 (zI y.2) (zL y.2)) A) args s 0 0 A) (F0 m 0 ls []) := by
  obtain ⟨hx, hb, hr, hml, hown, hT, hk, hK⟩ := id C0
  refine lv_aload_n hx hb dX11_comes_0 rfl (lv_at hl 0 rfl) ?_
  refine lv_iload_n hx hb dX11_comes_1 rfl (lv_at hl 1 rfl) ?_
  obtain ⟨z1, hc2, hf⟩ := zbd_some hf
  refine zri (zV (As := [.int v1]) hx hb hml hown hT hl.1 (c_Mo_isBell o0 a0 s0 v1 hc2) zY_Mo_isBell tb_1315 (zpR hK hP [0] rfl 0 11 rfl rfl rfl) rm_ok_Mo_comes_Mo_isBell rfl rfl (Nat.le_of_ble_eq_true rfl) dX11_comes_2 ⟨Nat.zero_le _, Nat.zero_le _⟩) ?_
  refine lv_if_eq (tgt := 28) hx hb dX11_comes_5 (by decide) (fun hb_3 => ?_) (fun hb_3 => ?_)
  · have hf := zif_t hb_3 hf
    refine lv_iconst (v := 0) hx hb dX11_comes_28 (by decide) ?_
    cases hf
    exact zewz hx hb hr hk (Or.inl rfl) hK hP hD hS dX11_comes_29
  · have hf := zif_f hb_3 hf
    refine lv_aload_n hx hb dX11_comes_8 rfl (lv_at hl 0 rfl) ?_
    refine zget (v := .int (zI s0 34)) hx hb hown hT hK hP inX11 rfl smX11 0 rfl 34 (by decide) tb_1036 rfl dX11_comes_9 ?_
    refine lv_iload_n hx hb dX11_comes_12 rfl (lv_at hl 1 rfl) ?_
    refine lv_ishr hx hb dX11_comes_13 ?_
    refine lv_iconst (v := 1) hx hb dX11_comes_14 (by decide) ?_
    refine lv_iand hx hb dX11_comes_15 ?_
    refine lv_iload_n hx hb dX11_comes_16 rfl (lv_at hl 2 rfl) ?_
    refine lv_if_eq (tgt := 24) hx hb dX11_comes_17 (by decide) (fun hb_4 => ?_) (fun hb_4 => ?_)
    · have hf := zif_t hb_4 hf
      refine lv_iconst (v := 0) hx hb dX11_comes_24 (by decide) ?_
      exact k_Mo_comes_b25 C0 s0 v1 (((zI s0 34) >>> (v1 &&& 31)) &&& 1) 0  hA hP hD hS hf _ (lv_sub hl [0, 1] rfl)
    · have hf := zif_f hb_4 hf
      refine lv_iconst (v := 1) hx hb dX11_comes_20 (by decide) ?_
      refine lv_goto (tgt := 25) hx hb dX11_comes_21 (by decide) ?_
      exact k_Mo_comes_b25 C0 s0 v1 (((zI s0 34) >>> (v1 &&& 31)) &&& 1) 1  hA hP hD hS hf _ (lv_sub hl [0, 1] rfl)
set_option maxHeartbeats 4000000 in
set_option maxRecDepth 100000 in
theorem c_Mo_comes {l : Launch} {dC : Nat → ClassId} {dI : Nat → Nat → Nat} {cy : Nat → ClassId} {sz : Nat} {N : Nat} (o0 : Nat) (a0 : Nat → Nat) (s0 : zSt) (v1 : Int32) (v2 : Int32) {y : Int32 × zSt} (hf : Mo_comes N s0 v1 v2 = some y) : Met l yX11_comes (.code yX11_comes cX11_comes 3 (some .boolean) :: zt) rm_Mo_comes (va_Pc [.ref o0, .int v1, .int v2] (zPre (dC, dI) cy (wd_Mo_comes cy o0 a0 (zI s0) (zL s0)) sz)) (zQi y.1 (dC, dI) cy (wd_Mo_comes cy o0 a0 (zI y.2) (zL y.2)) (va_A (wd_Mo_comes cy o0 a0 (zI s0) (zL s0)) sz)) 0 0 (va_A (wd_Mo_comes cy o0 a0 (zI s0) (zL s0)) sz) :=
  zentW (Qw := fun A => (zQi y.1 (dC, dI) cy (wd_Mo_comes cy o0 a0 (zI y.2) (zL y.2)) A)) (by decide +kernel) (Nat.le_of_ble_eq_true rfl) (fun p e s m below meth c A C0 hA hP hD hS ls hl => k_Mo_comes_b0 C0 s0 v1 v2 hA hP hD hS hf ls hl)
def wd_Mo_stand (cy : Nat → ClassId) (o0 : Nat) (a0 : Nat → Nat) (g0 : Nat → Int32) (h0 : Nat → Int64) : va_W := [(o0, .inr (11, fs_Mo a0 g0 h0))]
def rm_Mo_stand : Room := { frames := 3, cells := 0, slots := 0, locals := 83 }
theorem rm_ok_Mo_stand_Mo_isBell : rm_Mo_isBell.cells = 0 ∧ rm_Mo_isBell.slots = 0 ∧ rm_Mo_isBell.frames + 1 ≤ rm_Mo_stand.frames ∧ 8 + (2 + 11) + rm_Mo_isBell.locals ≤ rm_Mo_stand.locals := by decide
set_option maxHeartbeats 4000000 in
set_option maxRecDepth 100000 in
theorem k_Mo_stand_b36 {p : Program} {l : Launch} {e : Env} {s : State} {m : MethodId} {args : Array Value} {below : List Frame} {meth : Method} {c : Code} {dC : Nat → ClassId} {dI : Nat → Nat → Nat} {cy : Nat → ClassId} {A : Nat → Prop} {o0 : Nat} {a0 : Nat → Nat} {N : Nat} {y : Int32 × zSt} (C0 : zCx p s m args meth c cX11_stand 3 (some .boolean) RX11 (dC, dI) cy) (s0 : zSt) (v1 : Int32) (t0 : Int32) (t1 : Int32) (hA : ∀ q, s.heap.size ≤ q → A q) {H : Heap} {locs : List Loc} (hP : va_P (dC, dI) vwCl (wd_Mo_stand cy o0 a0 (zI s0) (zL s0)) H) (hD : va_D A (wd_Mo_stand cy o0 a0 (zI s0) (zL s0))) (hS : va_S A s.heap H locs) (hf : Mo_stand_b36 N s0 v1 t0 t1 = some y) (ls : Array Slot) (hl : lv_has ls 3 [(0, .ref o0), (1, .int v1)]) : W p l e rm_Mo_stand s m args below meth c H locs 0 0 (MQ below (zQi y.1 (dC, dI) cy (wd_Mo_stand cy o0 a0 (zI y.2) (zL y.2)) A) args s 0 0 A) (F0 m 36 ls [.int t1, .int t0]) := by
  obtain ⟨hx, hb, hr, hml, hown, hT, hk, hK⟩ := id C0
  refine lv_icmp_ne (tgt := 41) hx hb dX11_stand_36 (by decide) (fun hb_1 => ?_) (fun hb_1 => ?_)
  · have hf := zif_f hb_1 hf
    refine lv_aload_n hx hb dX11_stand_41 rfl (lv_at hl 0 rfl) ?_
    refine lv_dup hx hb dX11_stand_42 rfl ?_
    refine zget (v := .int (zI s0 35)) hx hb hown hT hK hP inX11 rfl smX11 0 rfl 35 (by decide) tb_1037 rfl dX11_stand_43 ?_
    refine lv_iconst (v := 1) hx hb dX11_stand_46 (by decide) ?_
    refine lv_iload_n hx hb dX11_stand_47 rfl (lv_at hl 1 rfl) ?_
    refine lv_ishl hx hb dX11_stand_48 ?_
    refine lv_ixor hx hb dX11_stand_49 ?_
    refine zput (fs' := fs_Mo a0 (upd (zI s0) 35 ((zI s0 35) ^^^ ((1 : Int32) <<< (v1 &&& 31)))) (zL s0)) (ws' := (wd_Mo_stand cy o0 a0 (upd (zI s0) 35 ((zI s0 35) ^^^ ((1 : Int32) <<< (v1 &&& 31)))) (zL s0))) hx hb hown hT hK hP hD hS inX11 rfl smX11 tyX11_ok nmX11 0 rfl 35 (by decide) tb_1037 rfl rfl rfl (Nat.le_of_ble_eq_true rfl) rfl rfl dX11_stand_50 (fun H locs hP hD hS => ?_)
    refine lv_iconst (v := 1) hx hb dX11_stand_53 (by decide) ?_
    cases hf
    exact zewz hx hb hr hk (Or.inr rfl) hK hP hD hS dX11_stand_54
  · have hf := zif_t hb_1 hf
    refine lv_iconst (v := 0) hx hb dX11_stand_39 (by decide) ?_
    cases hf
    exact zewz hx hb hr hk (Or.inl rfl) hK hP hD hS dX11_stand_40
set_option maxHeartbeats 4000000 in
set_option maxRecDepth 100000 in
theorem k_Mo_stand_b0 {p : Program} {l : Launch} {e : Env} {s : State} {m : MethodId} {args : Array Value} {below : List Frame} {meth : Method} {c : Code} {dC : Nat → ClassId} {dI : Nat → Nat → Nat} {cy : Nat → ClassId} {A : Nat → Prop} {o0 : Nat} {a0 : Nat → Nat} {N : Nat} {y : Int32 × zSt} (C0 : zCx p s m args meth c cX11_stand 3 (some .boolean) RX11 (dC, dI) cy) (s0 : zSt) (v1 : Int32) (v2 : Int32) (hA : ∀ q, s.heap.size ≤ q → A q) {H : Heap} {locs : List Loc} (hP : va_P (dC, dI) vwCl (wd_Mo_stand cy o0 a0 (zI s0) (zL s0)) H) (hD : va_D A (wd_Mo_stand cy o0 a0 (zI s0) (zL s0))) (hS : va_S A s.heap H locs) (hf : Mo_stand_b0 N s0 v1 v2 = some y) (ls : Array Slot) (hl : lv_has ls 3 [(0, .ref o0), (1, .int v1), (2, .int v2)]) : W p l e rm_Mo_stand s m args below meth c H locs 0 0 (MQ below (zQi y.1 (dC, dI) cy (wd_Mo_stand cy o0 a0 (zI y.2) (zL y.2)) A) args s 0 0 A) (F0 m 0 ls []) := by
  obtain ⟨hx, hb, hr, hml, hown, hT, hk, hK⟩ := id C0
  refine lv_aload_n hx hb dX11_stand_0 rfl (lv_at hl 0 rfl) ?_
  refine lv_iload_n hx hb dX11_stand_1 rfl (lv_at hl 1 rfl) ?_
  obtain ⟨z1, hc2, hf⟩ := zbd_some hf
  refine zri (zV (As := [.int v1]) hx hb hml hown hT hl.1 (c_Mo_isBell o0 a0 s0 v1 hc2) zY_Mo_isBell tb_1315 (zpR hK hP [0] rfl 0 11 rfl rfl rfl) rm_ok_Mo_stand_Mo_isBell rfl rfl (Nat.le_of_ble_eq_true rfl) dX11_stand_2 ⟨Nat.zero_le _, Nat.zero_le _⟩) ?_
  refine lv_if_eq (tgt := 39) hx hb dX11_stand_5 (by decide) (fun hb_3 => ?_) (fun hb_3 => ?_)
  · have hf := zif_t hb_3 hf
    refine lv_iconst (v := 0) hx hb dX11_stand_39 (by decide) ?_
    cases hf
    exact zewz hx hb hr hk (Or.inl rfl) hK hP hD hS dX11_stand_40
  · have hf := zif_f hb_3 hf
    refine lv_aload_n hx hb dX11_stand_8 rfl (lv_at hl 0 rfl) ?_
    refine zget (v := .int (zI s0 34)) hx hb hown hT hK hP inX11 rfl smX11 0 rfl 34 (by decide) tb_1036 rfl dX11_stand_9 ?_
    refine lv_iload_n hx hb dX11_stand_12 rfl (lv_at hl 1 rfl) ?_
    refine lv_ishr hx hb dX11_stand_13 ?_
    refine lv_iconst (v := 1) hx hb dX11_stand_14 (by decide) ?_
    refine lv_iand hx hb dX11_stand_15 ?_
    refine lv_if_eq (tgt := 39) hx hb dX11_stand_16 (by decide) (fun hb_4 => ?_) (fun hb_4 => ?_)
    · have hf := zif_t hb_4 hf
      refine lv_iconst (v := 0) hx hb dX11_stand_39 (by decide) ?_
      cases hf
      exact zewz hx hb hr hk (Or.inl rfl) hK hP hD hS dX11_stand_40
    · have hf := zif_f hb_4 hf
      refine lv_aload_n hx hb dX11_stand_19 rfl (lv_at hl 0 rfl) ?_
      refine zget (v := .int (zI s0 35)) hx hb hown hT hK hP inX11 rfl smX11 0 rfl 35 (by decide) tb_1037 rfl dX11_stand_20 ?_
      refine lv_iload_n hx hb dX11_stand_23 rfl (lv_at hl 1 rfl) ?_
      refine lv_ishr hx hb dX11_stand_24 ?_
      refine lv_iconst (v := 1) hx hb dX11_stand_25 (by decide) ?_
      refine lv_iand hx hb dX11_stand_26 ?_
      refine lv_iload_n hx hb dX11_stand_27 rfl (lv_at hl 2 rfl) ?_
      refine lv_if_eq (tgt := 35) hx hb dX11_stand_28 (by decide) (fun hb_5 => ?_) (fun hb_5 => ?_)
      · have hf := zif_t hb_5 hf
        refine lv_iconst (v := 0) hx hb dX11_stand_35 (by decide) ?_
        exact k_Mo_stand_b36 C0 s0 v1 (((zI s0 35) >>> (v1 &&& 31)) &&& 1) 0  hA hP hD hS hf _ (lv_sub hl [0, 1] rfl)
      · have hf := zif_f hb_5 hf
        refine lv_iconst (v := 1) hx hb dX11_stand_31 (by decide) ?_
        refine lv_goto (tgt := 36) hx hb dX11_stand_32 (by decide) ?_
        exact k_Mo_stand_b36 C0 s0 v1 (((zI s0 35) >>> (v1 &&& 31)) &&& 1) 1  hA hP hD hS hf _ (lv_sub hl [0, 1] rfl)
set_option maxHeartbeats 4000000 in
set_option maxRecDepth 100000 in
theorem c_Mo_stand {l : Launch} {dC : Nat → ClassId} {dI : Nat → Nat → Nat} {cy : Nat → ClassId} {sz : Nat} {N : Nat} (o0 : Nat) (a0 : Nat → Nat) (s0 : zSt) (v1 : Int32) (v2 : Int32) {y : Int32 × zSt} (hf : Mo_stand N s0 v1 v2 = some y) : Met l yX11_stand (.code yX11_stand cX11_stand 3 (some .boolean) :: zt) rm_Mo_stand (va_Pc [.ref o0, .int v1, .int v2] (zPre (dC, dI) cy (wd_Mo_stand cy o0 a0 (zI s0) (zL s0)) sz)) (zQi y.1 (dC, dI) cy (wd_Mo_stand cy o0 a0 (zI y.2) (zL y.2)) (va_A (wd_Mo_stand cy o0 a0 (zI s0) (zL s0)) sz)) 0 0 (va_A (wd_Mo_stand cy o0 a0 (zI s0) (zL s0)) sz) :=
  zentW (Qw := fun A => (zQi y.1 (dC, dI) cy (wd_Mo_stand cy o0 a0 (zI y.2) (zL y.2)) A)) (by decide +kernel) (Nat.le_of_ble_eq_true rfl) (fun p e s m below meth c A C0 hA hP hD hS ls hl => k_Mo_stand_b0 C0 s0 v1 v2 hA hP hD hS hf ls hl)
def wd_Mo_isPlace (cy : Nat → ClassId) : va_W := []
def rm_Mo_isPlace : Room := { frames := 2, cells := 0, slots := 0, locals := 62 }
theorem rm_ok_Mo_isPlace_Mo_isIn : rm_Mo_isIn.cells = 0 ∧ rm_Mo_isIn.slots = 0 ∧ rm_Mo_isIn.frames + 1 ≤ rm_Mo_isPlace.frames ∧ 8 + (3 + 11) + rm_Mo_isIn.locals ≤ rm_Mo_isPlace.locals := by decide
set_option maxHeartbeats 4000000 in
set_option maxRecDepth 100000 in
theorem k_Mo_isPlace_b0 {p : Program} {l : Launch} {e : Env} {s : State} {m : MethodId} {args : Array Value} {below : List Frame} {meth : Method} {c : Code} {dC : Nat → ClassId} {dI : Nat → Nat → Nat} {cy : Nat → ClassId} {N : Nat} {y : Int32} (C0 : zCx p s m args meth c cX11_isPlace 1 (some .boolean) RX11 (dC, dI) cy) (v0 : Int32) (hP : va_P (dC, dI) vwCl (wd_Mo_isPlace cy) s.heap) (hf : Mo_isPlace_b0 N v0 = some y) (ls : Array Slot) (hl : lv_has ls 1 [(0, .int v0)]) : W p l e rm_Mo_isPlace s m args below meth c s.heap [] 0 0 (MQ below (zSi y) args s 0 0 (fun _ => False)) (F0 m 0 ls []) := by
  obtain ⟨hx, hb, hr, hml, hown, hT, hk, hK⟩ := id C0
  refine lv_iload_n hx hb dX11_isPlace_0 rfl (lv_at hl 0 rfl) ?_
  refine lv_iconst (v := 0) hx hb dX11_isPlace_1 (by decide) ?_
  refine lv_bipush (v := 99) hx hb dX11_isPlace_2 (by decide) ?_
  obtain ⟨z1, hc2, hf⟩ := zbd_some hf
  refine zri (zS (As := [.int v0, .int 0, .int 99]) hx hb hml hown hT hl.1 (c_Mo_isIn v0 0 99 hc2) zY_Mo_isIn tb_1319 (zpS hK hP [] rfl) rm_ok_Mo_isPlace_Mo_isIn rfl rfl (Nat.le_of_ble_eq_true rfl) dX11_isPlace_4 ⟨Nat.zero_le _, Nat.zero_le _⟩) ?_
  obtain ⟨hq3, hf⟩ := zcb_some hf
  cases hf
  exact zerz hx hb hr hk hq3 dX11_isPlace_7
set_option maxHeartbeats 4000000 in
set_option maxRecDepth 100000 in
theorem c_Mo_isPlace {l : Launch} {dC : Nat → ClassId} {dI : Nat → Nat → Nat} {cy : Nat → ClassId} {N : Nat} (v0 : Int32) {y : Int32} (hf : Mo_isPlace N v0 = some y) : Met l yX11_isPlace (.code yX11_isPlace cX11_isPlace 1 (some .boolean) :: zt) rm_Mo_isPlace (va_Pc [.int v0] (zRd (dC, dI) cy (wd_Mo_isPlace cy))) (zSi y) 0 0 (fun _ => False) :=
  zentR (by decide +kernel) (Nat.le_of_ble_eq_true rfl) (fun p e s m below meth c C0 hP ls hl => k_Mo_isPlace_b0 C0 v0 hP hf ls hl)
def wd_Mo_isWind (cy : Nat → ClassId) : va_W := []
def rm_Mo_isWind : Room := { frames := 2, cells := 0, slots := 0, locals := 62 }
theorem rm_ok_Mo_isWind_Mo_isIn : rm_Mo_isIn.cells = 0 ∧ rm_Mo_isIn.slots = 0 ∧ rm_Mo_isIn.frames + 1 ≤ rm_Mo_isWind.frames ∧ 8 + (3 + 11) + rm_Mo_isIn.locals ≤ rm_Mo_isWind.locals := by decide
set_option maxHeartbeats 4000000 in
set_option maxRecDepth 100000 in
theorem k_Mo_isWind_b0 {p : Program} {l : Launch} {e : Env} {s : State} {m : MethodId} {args : Array Value} {below : List Frame} {meth : Method} {c : Code} {dC : Nat → ClassId} {dI : Nat → Nat → Nat} {cy : Nat → ClassId} {N : Nat} {y : Int32} (C0 : zCx p s m args meth c cX11_isWind 1 (some .boolean) RX11 (dC, dI) cy) (v0 : Int32) (hP : va_P (dC, dI) vwCl (wd_Mo_isWind cy) s.heap) (hf : Mo_isWind_b0 N v0 = some y) (ls : Array Slot) (hl : lv_has ls 1 [(0, .int v0)]) : W p l e rm_Mo_isWind s m args below meth c s.heap [] 0 0 (MQ below (zSi y) args s 0 0 (fun _ => False)) (F0 m 0 ls []) := by
  obtain ⟨hx, hb, hr, hml, hown, hT, hk, hK⟩ := id C0
  refine lv_iload_n hx hb dX11_isWind_0 rfl (lv_at hl 0 rfl) ?_
  refine lv_iconst (v := 0) hx hb dX11_isWind_1 (by decide) ?_
  refine lv_bipush (v := 20) hx hb dX11_isWind_2 (by decide) ?_
  obtain ⟨z1, hc2, hf⟩ := zbd_some hf
  refine zri (zS (As := [.int v0, .int 0, .int 20]) hx hb hml hown hT hl.1 (c_Mo_isIn v0 0 20 hc2) zY_Mo_isIn tb_1319 (zpS hK hP [] rfl) rm_ok_Mo_isWind_Mo_isIn rfl rfl (Nat.le_of_ble_eq_true rfl) dX11_isWind_4 ⟨Nat.zero_le _, Nat.zero_le _⟩) ?_
  obtain ⟨hq3, hf⟩ := zcb_some hf
  cases hf
  exact zerz hx hb hr hk hq3 dX11_isWind_7
set_option maxHeartbeats 4000000 in
set_option maxRecDepth 100000 in
theorem c_Mo_isWind {l : Launch} {dC : Nat → ClassId} {dI : Nat → Nat → Nat} {cy : Nat → ClassId} {N : Nat} (v0 : Int32) {y : Int32} (hf : Mo_isWind N v0 = some y) : Met l yX11_isWind (.code yX11_isWind cX11_isWind 1 (some .boolean) :: zt) rm_Mo_isWind (va_Pc [.int v0] (zRd (dC, dI) cy (wd_Mo_isWind cy))) (zSi y) 0 0 (fun _ => False) :=
  zentR (by decide +kernel) (Nat.le_of_ble_eq_true rfl) (fun p e s m below meth c C0 hP ls hl => k_Mo_isWind_b0 C0 v0 hP hf ls hl)
def wd_Mo_walk (cy : Nat → ClassId) (o0 : Nat) (a0 : Nat → Nat) (g0 : Nat → Int32) (h0 : Nat → Int64) : va_W := [(o0, .inr (11, fs_Mo a0 g0 h0))]
def rm_Mo_walk : Room := { frames := 3, cells := 0, slots := 0, locals := 82 }
theorem rm_ok_Mo_walk_Mo_isPlace : rm_Mo_isPlace.cells = 0 ∧ rm_Mo_isPlace.slots = 0 ∧ rm_Mo_isPlace.frames + 1 ≤ rm_Mo_walk.frames ∧ 8 + (1 + 11) + rm_Mo_isPlace.locals ≤ rm_Mo_walk.locals := by decide
theorem rm_ok_Mo_walk_Mo_isWind : rm_Mo_isWind.cells = 0 ∧ rm_Mo_isWind.slots = 0 ∧ rm_Mo_isWind.frames + 1 ≤ rm_Mo_walk.frames ∧ 8 + (1 + 11) + rm_Mo_isWind.locals ≤ rm_Mo_walk.locals := by decide
set_option maxHeartbeats 4000000 in
set_option maxRecDepth 100000 in
theorem k_Mo_walk_b0 {p : Program} {l : Launch} {e : Env} {s : State} {m : MethodId} {args : Array Value} {below : List Frame} {meth : Method} {c : Code} {dC : Nat → ClassId} {dI : Nat → Nat → Nat} {cy : Nat → ClassId} {A : Nat → Prop} {o0 : Nat} {a0 : Nat → Nat} {N : Nat} {y : Int32 × zSt} (C0 : zCx p s m args meth c cX11_walk 4 (some .int) RX11 (dC, dI) cy) (s0 : zSt) (v1 : Int32) (v2 : Int32) (hA : ∀ q, s.heap.size ≤ q → A q) {H : Heap} {locs : List Loc} (hP : va_P (dC, dI) vwCl (wd_Mo_walk cy o0 a0 (zI s0) (zL s0)) H) (hD : va_D A (wd_Mo_walk cy o0 a0 (zI s0) (zL s0))) (hS : va_S A s.heap H locs) (hf : Mo_walk_b0 N s0 v1 v2 = some y) (ls : Array Slot) (hl : lv_has ls 4 [(0, .ref o0), (1, .int v1), (2, .int v2)]) : W p l e rm_Mo_walk s m args below meth c H locs 0 0 (MQ below (zQi y.1 (dC, dI) cy (wd_Mo_walk cy o0 a0 (zI y.2) (zL y.2)) A) args s 0 0 A) (F0 m 0 ls []) := by
  obtain ⟨hx, hb, hr, hml, hown, hT, hk, hK⟩ := id C0
  refine lv_iload_n hx hb dX11_walk_0 rfl (lv_at hl 1 rfl) ?_
  obtain ⟨z1, hc2, hf⟩ := zbd_some hf
  refine zri (zS (As := [.int v1]) hx hb hml hown hT hl.1 (c_Mo_isPlace v1 hc2) zY_Mo_isPlace tb_1364 (zpS hK hP [] rfl) rm_ok_Mo_walk_Mo_isPlace rfl rfl (Nat.le_of_ble_eq_true rfl) dX11_walk_1 ⟨Nat.zero_le _, Nat.zero_le _⟩) ?_
  refine lv_if_eq (tgt := 14) hx hb dX11_walk_4 (by decide) (fun hb_3 => ?_) (fun hb_3 => ?_)
  · have hf := zif_t hb_3 hf
    refine lv_iconst (v := (-1)) hx hb dX11_walk_14 (by decide) ?_
    cases hf
    exact zewi hx hb hr hk hK hP hD hS dX11_walk_15
  · have hf := zif_f hb_3 hf
    refine lv_iload_n hx hb dX11_walk_7 rfl (lv_at hl 2 rfl) ?_
    obtain ⟨z4, hc5, hf⟩ := zbd_some hf
    refine zri (zS (As := [.int v2]) hx hb hml hown hT hl.1 (c_Mo_isWind v2 hc5) zY_Mo_isWind tb_1367 (zpS hK hP [] rfl) rm_ok_Mo_walk_Mo_isWind rfl rfl (Nat.le_of_ble_eq_true rfl) dX11_walk_8 ⟨Nat.zero_le _, Nat.zero_le _⟩) ?_
    refine lv_if_ne (tgt := 16) hx hb dX11_walk_11 (by decide) (fun hb_6 => ?_) (fun hb_6 => ?_)
    · have hf := zif_f hb_6 hf
      refine lv_aload_n hx hb dX11_walk_16 rfl (lv_at hl 0 rfl) ?_
      refine zget (v := .int (zI s0 36)) hx hb hown hT hK hP inX11 rfl smX11 0 rfl 36 (by decide) tb_1038 rfl dX11_walk_17 ?_
      refine lv_istore_n (lv' := [(3, .int (zI s0 36)), (0, .ref o0), (1, .int v1), (2, .int v2)]) hx hb dX11_walk_20 rfl hl (by decide) rfl (fun ls hl => ?_)
      refine lv_aload_n hx hb dX11_walk_21 rfl (lv_at hl 1 rfl) ?_
      refine lv_iload_n hx hb dX11_walk_22 rfl (lv_at hl 2 rfl) ?_
      refine zput (fs' := fs_Mo a0 (upd (zI s0) 36 v1) (zL s0)) (ws' := (wd_Mo_walk cy o0 a0 (upd (zI s0) 36 v1) (zL s0))) hx hb hown hT hK hP hD hS inX11 rfl smX11 tyX11_ok nmX11 0 rfl 36 (by decide) tb_1038 rfl rfl rfl (Nat.le_of_ble_eq_true rfl) rfl rfl dX11_walk_23 (fun H locs hP hD hS => ?_)
      refine lv_aload_n hx hb dX11_walk_26 rfl (lv_at hl 1 rfl) ?_
      refine lv_iload_n hx hb dX11_walk_27 rfl (lv_at hl 3 rfl) ?_
      refine zput (fs' := fs_Mo a0 (upd (upd (zI s0) 36 v1) 37 v2) (zL s0)) (ws' := (wd_Mo_walk cy o0 a0 (upd (upd (zI s0) 36 v1) 37 v2) (zL s0))) hx hb hown hT hK hP hD hS inX11 rfl smX11 tyX11_ok nmX11 0 rfl 37 (by decide) tb_1039 rfl rfl rfl (Nat.le_of_ble_eq_true rfl) rfl rfl dX11_walk_28 (fun H locs hP hD hS => ?_)
      refine lv_iload_n hx hb dX11_walk_31 rfl (lv_at hl 0 rfl) ?_
      cases hf
      exact zewi hx hb hr hk hK hP hD hS dX11_walk_32
    · have hf := zif_t hb_6 hf
      refine lv_iconst (v := (-1)) hx hb dX11_walk_14 (by decide) ?_
      cases hf
      exact zewi hx hb hr hk hK hP hD hS dX11_walk_15
set_option maxHeartbeats 4000000 in
set_option maxRecDepth 100000 in
theorem c_Mo_walk {l : Launch} {dC : Nat → ClassId} {dI : Nat → Nat → Nat} {cy : Nat → ClassId} {sz : Nat} {N : Nat} (o0 : Nat) (a0 : Nat → Nat) (s0 : zSt) (v1 : Int32) (v2 : Int32) {y : Int32 × zSt} (hf : Mo_walk N s0 v1 v2 = some y) : Met l yX11_walk (.code yX11_walk cX11_walk 4 (some .int) :: zt) rm_Mo_walk (va_Pc [.ref o0, .int v1, .int v2] (zPre (dC, dI) cy (wd_Mo_walk cy o0 a0 (zI s0) (zL s0)) sz)) (zQi y.1 (dC, dI) cy (wd_Mo_walk cy o0 a0 (zI y.2) (zL y.2)) (va_A (wd_Mo_walk cy o0 a0 (zI s0) (zL s0)) sz)) 0 0 (va_A (wd_Mo_walk cy o0 a0 (zI s0) (zL s0)) sz) :=
  zentW (Qw := fun A => (zQi y.1 (dC, dI) cy (wd_Mo_walk cy o0 a0 (zI y.2) (zL y.2)) A)) (by decide +kernel) (Nat.le_of_ble_eq_true rfl) (fun p e s m below meth c A C0 hA hP hD hS ls hl => k_Mo_walk_b0 C0 s0 v1 v2 hA hP hD hS hf ls hl)
def wd_Mo_crack (cy : Nat → ClassId) (o0 : Nat) (a0 : Nat → Nat) (g0 : Nat → Int32) (h0 : Nat → Int64) (x0_33 : Nat → Int32) : va_W := [(o0, .inr (11, fs_Mo a0 g0 h0)), (a0 33, .inl (cy 0, 11, .inl x0_33))]
def rm_Mo_crack : Room := { frames := 3, cells := 0, slots := 0, locals := 83 }
theorem rm_ok_Mo_crack_Mo_isBell : rm_Mo_isBell.cells = 0 ∧ rm_Mo_isBell.slots = 0 ∧ rm_Mo_isBell.frames + 1 ≤ rm_Mo_crack.frames ∧ 8 + (2 + 11) + rm_Mo_isBell.locals ≤ rm_Mo_crack.locals := by decide
theorem rm_ok_Mo_crack_Mo_isIn : rm_Mo_isIn.cells = 0 ∧ rm_Mo_isIn.slots = 0 ∧ rm_Mo_isIn.frames + 1 ≤ rm_Mo_crack.frames ∧ 8 + (3 + 11) + rm_Mo_isIn.locals ≤ rm_Mo_crack.locals := by decide
set_option maxHeartbeats 4000000 in
set_option maxRecDepth 100000 in
theorem k_Mo_crack_b0 {p : Program} {l : Launch} {e : Env} {s : State} {m : MethodId} {args : Array Value} {below : List Frame} {meth : Method} {c : Code} {dC : Nat → ClassId} {dI : Nat → Nat → Nat} {cy : Nat → ClassId} {A : Nat → Prop} {o0 : Nat} {a0 : Nat → Nat} {N : Nat} {y : Int32 × zSt} (C0 : zCx p s m args meth c cX11_crack 4 (some .int) RX11 (dC, dI) cy) (s0 : zSt) (v1 : Int32) (v2 : Int32) (hA : ∀ q, s.heap.size ≤ q → A q) {H : Heap} {locs : List Loc} (hP : va_P (dC, dI) vwCl (wd_Mo_crack cy o0 a0 (zI s0) (zL s0) (zA s0 33)) H) (hD : va_D A (wd_Mo_crack cy o0 a0 (zI s0) (zL s0) (zA s0 33))) (hS : va_S A s.heap H locs) (hf : Mo_crack_b0 N s0 v1 v2 = some y) (ls : Array Slot) (hl : lv_has ls 4 [(0, .ref o0), (1, .int v1), (2, .int v2)]) : W p l e rm_Mo_crack s m args below meth c H locs 0 0 (MQ below (zQi y.1 (dC, dI) cy (wd_Mo_crack cy o0 a0 (zI y.2) (zL y.2) (zA y.2 33)) A) args s 0 0 A) (F0 m 0 ls []) := by
  obtain ⟨hx, hb, hr, hml, hown, hT, hk, hK⟩ := id C0
  refine lv_aload_n hx hb dX11_crack_0 rfl (lv_at hl 0 rfl) ?_
  refine lv_iload_n hx hb dX11_crack_1 rfl (lv_at hl 1 rfl) ?_
  obtain ⟨z1, hc2, hf⟩ := zbd_some hf
  refine zri (zV (As := [.int v1]) hx hb hml hown hT hl.1 (c_Mo_isBell o0 a0 s0 v1 hc2) zY_Mo_isBell tb_1315 (zpR hK hP [0] rfl 0 11 rfl rfl rfl) rm_ok_Mo_crack_Mo_isBell rfl rfl (Nat.le_of_ble_eq_true rfl) dX11_crack_2 ⟨Nat.zero_le _, Nat.zero_le _⟩) ?_
  refine lv_if_eq (tgt := 17) hx hb dX11_crack_5 (by decide) (fun hb_3 => ?_) (fun hb_3 => ?_)
  · have hf := zif_t hb_3 hf
    refine lv_iconst (v := (-1)) hx hb dX11_crack_17 (by decide) ?_
    cases hf
    exact zewi hx hb hr hk hK hP hD hS dX11_crack_18
  · have hf := zif_f hb_3 hf
    refine lv_iload_n hx hb dX11_crack_8 rfl (lv_at hl 2 rfl) ?_
    refine lv_iconst (v := 0) hx hb dX11_crack_9 (by decide) ?_
    refine lv_iconst (v := 2) hx hb dX11_crack_10 (by decide) ?_
    obtain ⟨z4, hc5, hf⟩ := zbd_some hf
    refine zri (zS (As := [.int v2, .int 0, .int 2]) hx hb hml hown hT hl.1 (c_Mo_isIn v2 0 2 hc5) zY_Mo_isIn tb_1319 (zpS hK hP [] rfl) rm_ok_Mo_crack_Mo_isIn rfl rfl (Nat.le_of_ble_eq_true rfl) dX11_crack_11 ⟨Nat.zero_le _, Nat.zero_le _⟩) ?_
    refine lv_if_ne (tgt := 19) hx hb dX11_crack_14 (by decide) (fun hb_6 => ?_) (fun hb_6 => ?_)
    · have hf := zif_f hb_6 hf
      refine lv_aload_n hx hb dX11_crack_19 rfl (lv_at hl 0 rfl) ?_
      refine zget (v := .ref (a0 33)) hx hb hown hT hK hP inX11 rfl smX11 0 rfl 33 (by decide) tb_1035 rfl dX11_crack_20 ?_
      refine lv_iload_n hx hb dX11_crack_23 rfl (lv_at hl 1 rfl) ?_
      obtain ⟨hi7, hf⟩ := zck_some hf
      refine va_iald hx hb hK.1 hP 1 0 rfl rfl hi7 dX11_crack_24 ?_
      refine lv_istore_n (lv' := [(3, .int ((zA s0 33) (Int32.toNatClampNeg v1))), (0, .ref o0), (1, .int v1), (2, .int v2)]) hx hb dX11_crack_25 rfl hl (by decide) rfl (fun ls hl => ?_)
      refine lv_aload_n hx hb dX11_crack_26 rfl (lv_at hl 1 rfl) ?_
      refine zget (v := .ref (a0 33)) hx hb hown hT hK hP inX11 rfl smX11 0 rfl 33 (by decide) tb_1035 rfl dX11_crack_27 ?_
      refine lv_iload_n hx hb dX11_crack_30 rfl (lv_at hl 2 rfl) ?_
      refine lv_iload_n hx hb dX11_crack_31 rfl (lv_at hl 3 rfl) ?_
      obtain ⟨hi8, hf⟩ := zck_some hf
      refine zast (ws' := (wd_Mo_crack cy o0 a0 (zI s0) (zL s0) (upd (zA s0 33) (Int32.toNatClampNeg v1) v2))) hx hb hK hP hD hS 1 0 rfl rfl hi8 rfl dX11_crack_32 (fun H locs hP hD hS => ?_)
      refine lv_iload_n hx hb dX11_crack_33 rfl (lv_at hl 0 rfl) ?_
      cases hf
      exact zewi hx hb hr hk hK hP hD hS dX11_crack_34
    · have hf := zif_t hb_6 hf
      refine lv_iconst (v := (-1)) hx hb dX11_crack_17 (by decide) ?_
      cases hf
      exact zewi hx hb hr hk hK hP hD hS dX11_crack_18
set_option maxHeartbeats 4000000 in
set_option maxRecDepth 100000 in
theorem c_Mo_crack {l : Launch} {dC : Nat → ClassId} {dI : Nat → Nat → Nat} {cy : Nat → ClassId} {sz : Nat} {N : Nat} (o0 : Nat) (a0 : Nat → Nat) (s0 : zSt) (v1 : Int32) (v2 : Int32) {y : Int32 × zSt} (hf : Mo_crack N s0 v1 v2 = some y) : Met l yX11_crack (.code yX11_crack cX11_crack 4 (some .int) :: zt) rm_Mo_crack (va_Pc [.ref o0, .int v1, .int v2] (zPre (dC, dI) cy (wd_Mo_crack cy o0 a0 (zI s0) (zL s0) (zA s0 33)) sz)) (zQi y.1 (dC, dI) cy (wd_Mo_crack cy o0 a0 (zI y.2) (zL y.2) (zA y.2 33)) (va_A (wd_Mo_crack cy o0 a0 (zI s0) (zL s0) (zA s0 33)) sz)) 0 0 (va_A (wd_Mo_crack cy o0 a0 (zI s0) (zL s0) (zA s0 33)) sz) :=
  zentW (Qw := fun A => (zQi y.1 (dC, dI) cy (wd_Mo_crack cy o0 a0 (zI y.2) (zL y.2) (zA y.2 33)) A)) (by decide +kernel) (Nat.le_of_ble_eq_true rfl) (fun p e s m below meth c A C0 hA hP hD hS ls hl => k_Mo_crack_b0 C0 s0 v1 v2 hA hP hD hS hf ls hl)
def wd_Mo_years (cy : Nat → ClassId) (o0 : Nat) (a0 : Nat → Nat) (g0 : Nat → Int32) (h0 : Nat → Int64) : va_W := [(o0, .inr (11, fs_Mo a0 g0 h0))]
def rm_Mo_years : Room := { frames := 2, cells := 0, slots := 0, locals := 62 }
theorem rm_ok_Mo_years_Mo_isIn : rm_Mo_isIn.cells = 0 ∧ rm_Mo_isIn.slots = 0 ∧ rm_Mo_isIn.frames + 1 ≤ rm_Mo_years.frames ∧ 8 + (3 + 11) + rm_Mo_isIn.locals ≤ rm_Mo_years.locals := by decide
set_option maxHeartbeats 4000000 in
set_option maxRecDepth 100000 in
theorem k_Mo_years_b0 {p : Program} {l : Launch} {e : Env} {s : State} {m : MethodId} {args : Array Value} {below : List Frame} {meth : Method} {c : Code} {dC : Nat → ClassId} {dI : Nat → Nat → Nat} {cy : Nat → ClassId} {A : Nat → Prop} {o0 : Nat} {a0 : Nat → Nat} {N : Nat} {y : Int32 × zSt} (C0 : zCx p s m args meth c cX11_years 2 (some .int) RX11 (dC, dI) cy) (s0 : zSt) (v1 : Int32) (hA : ∀ q, s.heap.size ≤ q → A q) {H : Heap} {locs : List Loc} (hP : va_P (dC, dI) vwCl (wd_Mo_years cy o0 a0 (zI s0) (zL s0)) H) (hD : va_D A (wd_Mo_years cy o0 a0 (zI s0) (zL s0))) (hS : va_S A s.heap H locs) (hf : Mo_years_b0 N s0 v1 = some y) (ls : Array Slot) (hl : lv_has ls 2 [(0, .ref o0), (1, .int v1)]) : W p l e rm_Mo_years s m args below meth c H locs 0 0 (MQ below (zQi y.1 (dC, dI) cy (wd_Mo_years cy o0 a0 (zI y.2) (zL y.2)) A) args s 0 0 A) (F0 m 0 ls []) := by
  obtain ⟨hx, hb, hr, hml, hown, hT, hk, hK⟩ := id C0
  refine lv_iload_n hx hb dX11_years_0 rfl (lv_at hl 1 rfl) ?_
  refine lv_iconst (v := 0) hx hb dX11_years_1 (by decide) ?_
  refine lv_bipush (v := 20) hx hb dX11_years_2 (by decide) ?_
  obtain ⟨z1, hc2, hf⟩ := zbd_some hf
  refine zri (zS (As := [.int v1, .int 0, .int 20]) hx hb hml hown hT hl.1 (c_Mo_isIn v1 0 20 hc2) zY_Mo_isIn tb_1319 (zpS hK hP [] rfl) rm_ok_Mo_years_Mo_isIn rfl rfl (Nat.le_of_ble_eq_true rfl) dX11_years_4 ⟨Nat.zero_le _, Nat.zero_le _⟩) ?_
  refine lv_if_eq (tgt := 22) hx hb dX11_years_7 (by decide) (fun hb_3 => ?_) (fun hb_3 => ?_)
  · have hf := zif_t hb_3 hf
    refine lv_iconst (v := (-1)) hx hb dX11_years_22 (by decide) ?_
    cases hf
    exact zewi hx hb hr hk hK hP hD hS dX11_years_23
  · have hf := zif_f hb_3 hf
    refine lv_aload_n hx hb dX11_years_10 rfl (lv_at hl 0 rfl) ?_
    refine zget (v := .int (zI s0 38)) hx hb hown hT hK hP inX11 rfl smX11 0 rfl 38 (by decide) tb_1040 rfl dX11_years_11 ?_
    refine lv_iload_n hx hb dX11_years_14 rfl (lv_at hl 1 rfl) ?_
    refine lv_iadd hx hb dX11_years_15 ?_
    refine lv_sipush (v := 200) hx hb dX11_years_16 (by decide) ?_
    refine lv_icmp_le (tgt := 24) hx hb dX11_years_19 (by decide) (fun hb_4 => ?_) (fun hb_4 => ?_)
    · have hf := zif_t hb_4 hf
      refine lv_aload_n hx hb dX11_years_24 rfl (lv_at hl 0 rfl) ?_
      refine lv_dup hx hb dX11_years_25 rfl ?_
      refine zget (v := .int (zI s0 38)) hx hb hown hT hK hP inX11 rfl smX11 0 rfl 38 (by decide) tb_1040 rfl dX11_years_26 ?_
      refine lv_iload_n hx hb dX11_years_29 rfl (lv_at hl 1 rfl) ?_
      refine lv_iadd hx hb dX11_years_30 ?_
      refine zput (fs' := fs_Mo a0 (upd (zI s0) 38 ((zI s0 38) + v1)) (zL s0)) (ws' := (wd_Mo_years cy o0 a0 (upd (zI s0) 38 ((zI s0 38) + v1)) (zL s0))) hx hb hown hT hK hP hD hS inX11 rfl smX11 tyX11_ok nmX11 0 rfl 38 (by decide) tb_1040 rfl rfl rfl (Nat.le_of_ble_eq_true rfl) rfl rfl dX11_years_31 (fun H locs hP hD hS => ?_)
      refine lv_aload_n hx hb dX11_years_34 rfl (lv_at hl 0 rfl) ?_
      refine zget (v := .int ((zI s0 38) + v1)) hx hb hown hT hK hP inX11 rfl smX11 0 rfl 38 (by decide) tb_1040 rfl dX11_years_35 ?_
      cases hf
      exact zewi hx hb hr hk hK hP hD hS dX11_years_38
    · have hf := zif_f hb_4 hf
      refine lv_iconst (v := (-1)) hx hb dX11_years_22 (by decide) ?_
      cases hf
      exact zewi hx hb hr hk hK hP hD hS dX11_years_23
set_option maxHeartbeats 4000000 in
set_option maxRecDepth 100000 in
theorem c_Mo_years {l : Launch} {dC : Nat → ClassId} {dI : Nat → Nat → Nat} {cy : Nat → ClassId} {sz : Nat} {N : Nat} (o0 : Nat) (a0 : Nat → Nat) (s0 : zSt) (v1 : Int32) {y : Int32 × zSt} (hf : Mo_years N s0 v1 = some y) : Met l yX11_years (.code yX11_years cX11_years 2 (some .int) :: zt) rm_Mo_years (va_Pc [.ref o0, .int v1] (zPre (dC, dI) cy (wd_Mo_years cy o0 a0 (zI s0) (zL s0)) sz)) (zQi y.1 (dC, dI) cy (wd_Mo_years cy o0 a0 (zI y.2) (zL y.2)) (va_A (wd_Mo_years cy o0 a0 (zI s0) (zL s0)) sz)) 0 0 (va_A (wd_Mo_years cy o0 a0 (zI s0) (zL s0)) sz) :=
  zentW (Qw := fun A => (zQi y.1 (dC, dI) cy (wd_Mo_years cy o0 a0 (zI y.2) (zL y.2)) A)) (by decide +kernel) (Nat.le_of_ble_eq_true rfl) (fun p e s m below meth c A C0 hA hP hD hS ls hl => k_Mo_years_b0 C0 s0 v1 hA hP hD hS hf ls hl)
def wd_Mo_isQuarter (cy : Nat → ClassId) : va_W := []
def rm_Mo_isQuarter : Room := { frames := 2, cells := 0, slots := 0, locals := 62 }
theorem rm_ok_Mo_isQuarter_Mo_isIn : rm_Mo_isIn.cells = 0 ∧ rm_Mo_isIn.slots = 0 ∧ rm_Mo_isIn.frames + 1 ≤ rm_Mo_isQuarter.frames ∧ 8 + (3 + 11) + rm_Mo_isIn.locals ≤ rm_Mo_isQuarter.locals := by decide
set_option maxHeartbeats 4000000 in
set_option maxRecDepth 100000 in
theorem k_Mo_isQuarter_b0 {p : Program} {l : Launch} {e : Env} {s : State} {m : MethodId} {args : Array Value} {below : List Frame} {meth : Method} {c : Code} {dC : Nat → ClassId} {dI : Nat → Nat → Nat} {cy : Nat → ClassId} {N : Nat} {y : Int32} (C0 : zCx p s m args meth c cX11_isQuarter 1 (some .boolean) RX11 (dC, dI) cy) (v0 : Int32) (hP : va_P (dC, dI) vwCl (wd_Mo_isQuarter cy) s.heap) (hf : Mo_isQuarter_b0 N v0 = some y) (ls : Array Slot) (hl : lv_has ls 1 [(0, .int v0)]) : W p l e rm_Mo_isQuarter s m args below meth c s.heap [] 0 0 (MQ below (zSi y) args s 0 0 (fun _ => False)) (F0 m 0 ls []) := by
  obtain ⟨hx, hb, hr, hml, hown, hT, hk, hK⟩ := id C0
  refine lv_iload_n hx hb dX11_isQuarter_0 rfl (lv_at hl 0 rfl) ?_
  refine lv_iconst (v := 0) hx hb dX11_isQuarter_1 (by decide) ?_
  refine lv_bipush (v := 95) hx hb dX11_isQuarter_2 (by decide) ?_
  obtain ⟨z1, hc2, hf⟩ := zbd_some hf
  refine zri (zS (As := [.int v0, .int 0, .int 95]) hx hb hml hown hT hl.1 (c_Mo_isIn v0 0 95 hc2) zY_Mo_isIn tb_1319 (zpS hK hP [] rfl) rm_ok_Mo_isQuarter_Mo_isIn rfl rfl (Nat.le_of_ble_eq_true rfl) dX11_isQuarter_4 ⟨Nat.zero_le _, Nat.zero_le _⟩) ?_
  obtain ⟨hq3, hf⟩ := zcb_some hf
  cases hf
  exact zerz hx hb hr hk hq3 dX11_isQuarter_7
set_option maxHeartbeats 4000000 in
set_option maxRecDepth 100000 in
theorem c_Mo_isQuarter {l : Launch} {dC : Nat → ClassId} {dI : Nat → Nat → Nat} {cy : Nat → ClassId} {N : Nat} (v0 : Int32) {y : Int32} (hf : Mo_isQuarter N v0 = some y) : Met l yX11_isQuarter (.code yX11_isQuarter cX11_isQuarter 1 (some .boolean) :: zt) rm_Mo_isQuarter (va_Pc [.int v0] (zRd (dC, dI) cy (wd_Mo_isQuarter cy))) (zSi y) 0 0 (fun _ => False) :=
  zentR (by decide +kernel) (Nat.le_of_ble_eq_true rfl) (fun p e s m below meth c C0 hP ls hl => k_Mo_isQuarter_b0 C0 v0 hP hf ls hl)
def wd_Mo_entry (cy : Nat → ClassId) (o0 : Nat) (a0 : Nat → Nat) (g0 : Nat → Int32) (h0 : Nat → Int64) (x0_39 : Nat → Int32) (x0_40 : Nat → Int32) (x0_41 : Nat → Int32) (x0_42 : Nat → Int32) (x0_43 : Nat → Int32) (x0_44 : Nat → Int32) (x0_45 : Nat → Int32) (x0_46 : Nat → Int32) : va_W := [(o0, .inr (11, fs_Mo a0 g0 h0)), (a0 39, .inl (cy 0, 40, .inl x0_39)), (a0 40, .inl (cy 0, 40, .inl x0_40)), (a0 41, .inl (cy 0, 40, .inl x0_41)), (a0 42, .inl (cy 0, 40, .inl x0_42)), (a0 43, .inl (cy 0, 40, .inl x0_43)), (a0 44, .inl (cy 0, 40, .inl x0_44)), (a0 45, .inl (cy 0, 40, .inl x0_45)), (a0 46, .inl (cy 0, 40, .inl x0_46))]
def rm_Mo_entry : Room := { frames := 1, cells := 0, slots := 0, locals := 40 }
set_option maxHeartbeats 4000000 in
set_option maxRecDepth 100000 in
theorem k_Mo_entry_b107 {p : Program} {l : Launch} {e : Env} {s : State} {m : MethodId} {args : Array Value} {below : List Frame} {meth : Method} {c : Code} {dC : Nat → ClassId} {dI : Nat → Nat → Nat} {cy : Nat → ClassId} {A : Nat → Prop} {o0 : Nat} {a0 : Nat → Nat} {N : Nat} {y : Int32 × zSt} (C0 : zCx p s m args meth c cX11_entry 7 (some .int) RX11 (dC, dI) cy) (s0 : zSt) (hA : ∀ q, s.heap.size ≤ q → A q) {H : Heap} {locs : List Loc} (hP : va_P (dC, dI) vwCl (wd_Mo_entry cy o0 a0 (zI s0) (zL s0) (zA s0 39) (zA s0 40) (zA s0 41) (zA s0 42) (zA s0 43) (zA s0 44) (zA s0 45) (zA s0 46)) H) (hD : va_D A (wd_Mo_entry cy o0 a0 (zI s0) (zL s0) (zA s0 39) (zA s0 40) (zA s0 41) (zA s0 42) (zA s0 43) (zA s0 44) (zA s0 45) (zA s0 46))) (hS : va_S A s.heap H locs) (hf : Mo_entry_b107 N s0 = some y) (ls : Array Slot) (hl : lv_has ls 7 [(0, .ref o0)]) : W p l e rm_Mo_entry s m args below meth c H locs 0 0 (MQ below (zQi y.1 (dC, dI) cy (wd_Mo_entry cy o0 a0 (zI y.2) (zL y.2) (zA y.2 39) (zA y.2 40) (zA y.2 41) (zA y.2 42) (zA y.2 43) (zA y.2 44) (zA y.2 45) (zA y.2 46)) A) args s 0 0 A) (F0 m 107 ls []) := by
  obtain ⟨hx, hb, hr, hml, hown, hT, hk, hK⟩ := id C0
  refine lv_aload_n hx hb dX11_entry_107 rfl (lv_at hl 0 rfl) ?_
  refine zget (v := .int (zI s0 47)) hx hb hown hT hK hP inX11 rfl smX11 0 rfl 47 (by decide) tb_1049 rfl dX11_entry_108 ?_
  refine lv_iconst (v := 1) hx hb dX11_entry_111 (by decide) ?_
  refine lv_isub hx hb dX11_entry_112 ?_
  cases hf
  exact zewi hx hb hr hk hK hP hD hS dX11_entry_113
set_option maxHeartbeats 4000000 in
set_option maxRecDepth 100000 in
theorem k_Mo_entry_b97 {p : Program} {l : Launch} {e : Env} {s : State} {m : MethodId} {args : Array Value} {below : List Frame} {meth : Method} {c : Code} {dC : Nat → ClassId} {dI : Nat → Nat → Nat} {cy : Nat → ClassId} {A : Nat → Prop} {o0 : Nat} {a0 : Nat → Nat} {N : Nat} {y : Int32 × zSt} (C0 : zCx p s m args meth c cX11_entry 7 (some .int) RX11 (dC, dI) cy) (s0 : zSt) (hA : ∀ q, s.heap.size ≤ q → A q) {H : Heap} {locs : List Loc} (hP : va_P (dC, dI) vwCl (wd_Mo_entry cy o0 a0 (zI s0) (zL s0) (zA s0 39) (zA s0 40) (zA s0 41) (zA s0 42) (zA s0 43) (zA s0 44) (zA s0 45) (zA s0 46)) H) (hD : va_D A (wd_Mo_entry cy o0 a0 (zI s0) (zL s0) (zA s0 39) (zA s0 40) (zA s0 41) (zA s0 42) (zA s0 43) (zA s0 44) (zA s0 45) (zA s0 46))) (hS : va_S A s.heap H locs) (hf : Mo_entry_b97 N s0 = some y) (ls : Array Slot) (hl : lv_has ls 7 [(0, .ref o0)]) : W p l e rm_Mo_entry s m args below meth c H locs 0 0 (MQ below (zQi y.1 (dC, dI) cy (wd_Mo_entry cy o0 a0 (zI y.2) (zL y.2) (zA y.2 39) (zA y.2 40) (zA y.2 41) (zA y.2 42) (zA y.2 43) (zA y.2 44) (zA y.2 45) (zA y.2 46)) A) args s 0 0 A) (F0 m 97 ls []) := by
  obtain ⟨hx, hb, hr, hml, hown, hT, hk, hK⟩ := id C0
  refine lv_aload_n hx hb dX11_entry_97 rfl (lv_at hl 0 rfl) ?_
  refine lv_dup hx hb dX11_entry_98 rfl ?_
  refine zget (v := .int (zI s0 47)) hx hb hown hT hK hP inX11 rfl smX11 0 rfl 47 (by decide) tb_1049 rfl dX11_entry_99 ?_
  refine lv_iconst (v := 1) hx hb dX11_entry_102 (by decide) ?_
  refine lv_iadd hx hb dX11_entry_103 ?_
  refine zput (fs' := fs_Mo a0 (upd (zI s0) 47 ((zI s0 47) + 1)) (zL s0)) (ws' := (wd_Mo_entry cy o0 a0 (upd (zI s0) 47 ((zI s0 47) + 1)) (zL s0) (zA s0 39) (zA s0 40) (zA s0 41) (zA s0 42) (zA s0 43) (zA s0 44) (zA s0 45) (zA s0 46))) hx hb hown hT hK hP hD hS inX11 rfl smX11 tyX11_ok nmX11 0 rfl 47 (by decide) tb_1049 rfl rfl rfl (Nat.le_of_ble_eq_true rfl) rfl rfl dX11_entry_104 (fun H locs hP hD hS => ?_)
  exact k_Mo_entry_b107 C0 (zpI s0 47 ((zI s0 47) + 1))  hA hP hD hS hf _ (lv_sub hl [0] rfl)
set_option maxHeartbeats 4000000 in
set_option maxRecDepth 100000 in
theorem k_Mo_entry_b87 {p : Program} {l : Launch} {e : Env} {s : State} {m : MethodId} {args : Array Value} {below : List Frame} {meth : Method} {c : Code} {dC : Nat → ClassId} {dI : Nat → Nat → Nat} {cy : Nat → ClassId} {A : Nat → Prop} {o0 : Nat} {a0 : Nat → Nat} {N : Nat} {y : Int32 × zSt} (C0 : zCx p s m args meth c cX11_entry 7 (some .int) RX11 (dC, dI) cy) (s0 : zSt) (hA : ∀ q, s.heap.size ≤ q → A q) {H : Heap} {locs : List Loc} (hP : va_P (dC, dI) vwCl (wd_Mo_entry cy o0 a0 (zI s0) (zL s0) (zA s0 39) (zA s0 40) (zA s0 41) (zA s0 42) (zA s0 43) (zA s0 44) (zA s0 45) (zA s0 46)) H) (hD : va_D A (wd_Mo_entry cy o0 a0 (zI s0) (zL s0) (zA s0 39) (zA s0 40) (zA s0 41) (zA s0 42) (zA s0 43) (zA s0 44) (zA s0 45) (zA s0 46))) (hS : va_S A s.heap H locs) (hf : Mo_entry_b87 N s0 = some y) (ls : Array Slot) (hl : lv_has ls 7 [(0, .ref o0)]) : W p l e rm_Mo_entry s m args below meth c H locs 0 0 (MQ below (zQi y.1 (dC, dI) cy (wd_Mo_entry cy o0 a0 (zI y.2) (zL y.2) (zA y.2 39) (zA y.2 40) (zA y.2 41) (zA y.2 42) (zA y.2 43) (zA y.2 44) (zA y.2 45) (zA y.2 46)) A) args s 0 0 A) (F0 m 87 ls []) := by
  obtain ⟨hx, hb, hr, hml, hown, hT, hk, hK⟩ := id C0
  refine lv_aload_n hx hb dX11_entry_87 rfl (lv_at hl 0 rfl) ?_
  refine zget (v := .ref (a0 46)) hx hb hown hT hK hP inX11 rfl smX11 0 rfl 46 (by decide) tb_1048 rfl dX11_entry_88 ?_
  refine lv_aload_n hx hb dX11_entry_91 rfl (lv_at hl 0 rfl) ?_
  refine zget (v := .int (zI s0 47)) hx hb hown hT hK hP inX11 rfl smX11 0 rfl 47 (by decide) tb_1049 rfl dX11_entry_92 ?_
  refine lv_iconst (v := (-1)) hx hb dX11_entry_95 (by decide) ?_
  obtain ⟨hi1, hf⟩ := zck_some hf
  refine zast (ws' := (wd_Mo_entry cy o0 a0 (zI s0) (zL s0) (zA s0 39) (zA s0 40) (zA s0 41) (zA s0 42) (zA s0 43) (zA s0 44) (zA s0 45) (upd (zA s0 46) (Int32.toNatClampNeg (zI s0 47)) (-1)))) hx hb hK hP hD hS 8 0 rfl rfl hi1 rfl dX11_entry_96 (fun H locs hP hD hS => ?_)
  exact k_Mo_entry_b97 C0 (zsA s0 46 (upd (zA s0 46) (Int32.toNatClampNeg (zI s0 47)) (-1)))  hA hP hD hS hf _ (lv_sub hl [0] rfl)
set_option maxHeartbeats 4000000 in
set_option maxRecDepth 100000 in
theorem k_Mo_entry_b0 {p : Program} {l : Launch} {e : Env} {s : State} {m : MethodId} {args : Array Value} {below : List Frame} {meth : Method} {c : Code} {dC : Nat → ClassId} {dI : Nat → Nat → Nat} {cy : Nat → ClassId} {A : Nat → Prop} {o0 : Nat} {a0 : Nat → Nat} {N : Nat} {y : Int32 × zSt} (C0 : zCx p s m args meth c cX11_entry 7 (some .int) RX11 (dC, dI) cy) (s0 : zSt) (v1 : Int32) (v2 : Int32) (v3 : Int32) (v4 : Int32) (v5 : Int32) (v6 : Int32) (hA : ∀ q, s.heap.size ≤ q → A q) {H : Heap} {locs : List Loc} (hP : va_P (dC, dI) vwCl (wd_Mo_entry cy o0 a0 (zI s0) (zL s0) (zA s0 39) (zA s0 40) (zA s0 41) (zA s0 42) (zA s0 43) (zA s0 44) (zA s0 45) (zA s0 46)) H) (hD : va_D A (wd_Mo_entry cy o0 a0 (zI s0) (zL s0) (zA s0 39) (zA s0 40) (zA s0 41) (zA s0 42) (zA s0 43) (zA s0 44) (zA s0 45) (zA s0 46))) (hS : va_S A s.heap H locs) (hf : Mo_entry_b0 N s0 v1 v2 v3 v4 v5 v6 = some y) (ls : Array Slot) (hl : lv_has ls 7 [(0, .ref o0), (1, .int v1), (2, .int v2), (3, .int v3), (4, .int v4), (5, .int v5), (6, .int v6)]) : W p l e rm_Mo_entry s m args below meth c H locs 0 0 (MQ below (zQi y.1 (dC, dI) cy (wd_Mo_entry cy o0 a0 (zI y.2) (zL y.2) (zA y.2 39) (zA y.2 40) (zA y.2 41) (zA y.2 42) (zA y.2 43) (zA y.2 44) (zA y.2 45) (zA y.2 46)) A) args s 0 0 A) (F0 m 0 ls []) := by
  obtain ⟨hx, hb, hr, hml, hown, hT, hk, hK⟩ := id C0
  refine lv_aload_n hx hb dX11_entry_0 rfl (lv_at hl 0 rfl) ?_
  refine zget (v := .int (zI s0 47)) hx hb hown hT hK hP inX11 rfl smX11 0 rfl 47 (by decide) tb_1049 rfl dX11_entry_1 ?_
  refine lv_bipush (v := 40) hx hb dX11_entry_4 (by decide) ?_
  refine lv_icmp_ne (tgt := 11) hx hb dX11_entry_6 (by decide) (fun hb_1 => ?_) (fun hb_1 => ?_)
  · have hf := zif_f hb_1 hf
    refine lv_aload_n hx hb dX11_entry_11 rfl (lv_at hl 0 rfl) ?_
    refine zget (v := .ref (a0 39)) hx hb hown hT hK hP inX11 rfl smX11 0 rfl 39 (by decide) tb_1041 rfl dX11_entry_12 ?_
    refine lv_aload_n hx hb dX11_entry_15 rfl (lv_at hl 0 rfl) ?_
    refine zget (v := .int (zI s0 47)) hx hb hown hT hK hP inX11 rfl smX11 0 rfl 47 (by decide) tb_1049 rfl dX11_entry_16 ?_
    refine lv_iload_n hx hb dX11_entry_19 rfl (lv_at hl 1 rfl) ?_
    obtain ⟨hi2, hf⟩ := zck_some hf
    refine zast (ws' := (wd_Mo_entry cy o0 a0 (zI s0) (zL s0) (upd (zA s0 39) (Int32.toNatClampNeg (zI s0 47)) v1) (zA s0 40) (zA s0 41) (zA s0 42) (zA s0 43) (zA s0 44) (zA s0 45) (zA s0 46))) hx hb hK hP hD hS 1 0 rfl rfl hi2 rfl dX11_entry_20 (fun H locs hP hD hS => ?_)
    refine lv_aload_n hx hb dX11_entry_21 rfl (lv_at hl 0 rfl) ?_
    refine zget (v := .ref (a0 40)) hx hb hown hT hK hP inX11 rfl smX11 0 rfl 40 (by decide) tb_1042 rfl dX11_entry_22 ?_
    refine lv_aload_n hx hb dX11_entry_25 rfl (lv_at hl 0 rfl) ?_
    refine zget (v := .int (zI s0 47)) hx hb hown hT hK hP inX11 rfl smX11 0 rfl 47 (by decide) tb_1049 rfl dX11_entry_26 ?_
    refine lv_iload_n hx hb dX11_entry_29 rfl (lv_at hl 2 rfl) ?_
    obtain ⟨hi3, hf⟩ := zck_some hf
    refine zast (ws' := (wd_Mo_entry cy o0 a0 (zI s0) (zL s0) (upd (zA s0 39) (Int32.toNatClampNeg (zI s0 47)) v1) (upd (zA s0 40) (Int32.toNatClampNeg (zI s0 47)) v2) (zA s0 41) (zA s0 42) (zA s0 43) (zA s0 44) (zA s0 45) (zA s0 46))) hx hb hK hP hD hS 2 0 rfl rfl hi3 rfl dX11_entry_30 (fun H locs hP hD hS => ?_)
    refine lv_aload_n hx hb dX11_entry_31 rfl (lv_at hl 0 rfl) ?_
    refine zget (v := .ref (a0 41)) hx hb hown hT hK hP inX11 rfl smX11 0 rfl 41 (by decide) tb_1043 rfl dX11_entry_32 ?_
    refine lv_aload_n hx hb dX11_entry_35 rfl (lv_at hl 0 rfl) ?_
    refine zget (v := .int (zI s0 47)) hx hb hown hT hK hP inX11 rfl smX11 0 rfl 47 (by decide) tb_1049 rfl dX11_entry_36 ?_
    refine lv_iload_n hx hb dX11_entry_39 rfl (lv_at hl 3 rfl) ?_
    obtain ⟨hi4, hf⟩ := zck_some hf
    refine zast (ws' := (wd_Mo_entry cy o0 a0 (zI s0) (zL s0) (upd (zA s0 39) (Int32.toNatClampNeg (zI s0 47)) v1) (upd (zA s0 40) (Int32.toNatClampNeg (zI s0 47)) v2) (upd (zA s0 41) (Int32.toNatClampNeg (zI s0 47)) v3) (zA s0 42) (zA s0 43) (zA s0 44) (zA s0 45) (zA s0 46))) hx hb hK hP hD hS 3 0 rfl rfl hi4 rfl dX11_entry_40 (fun H locs hP hD hS => ?_)
    refine lv_aload_n hx hb dX11_entry_41 rfl (lv_at hl 0 rfl) ?_
    refine zget (v := .ref (a0 42)) hx hb hown hT hK hP inX11 rfl smX11 0 rfl 42 (by decide) tb_1044 rfl dX11_entry_42 ?_
    refine lv_aload_n hx hb dX11_entry_45 rfl (lv_at hl 0 rfl) ?_
    refine zget (v := .int (zI s0 47)) hx hb hown hT hK hP inX11 rfl smX11 0 rfl 47 (by decide) tb_1049 rfl dX11_entry_46 ?_
    refine lv_iload hx hb dX11_entry_49 (lv_at hl 4 rfl) ?_
    obtain ⟨hi5, hf⟩ := zck_some hf
    refine zast (ws' := (wd_Mo_entry cy o0 a0 (zI s0) (zL s0) (upd (zA s0 39) (Int32.toNatClampNeg (zI s0 47)) v1) (upd (zA s0 40) (Int32.toNatClampNeg (zI s0 47)) v2) (upd (zA s0 41) (Int32.toNatClampNeg (zI s0 47)) v3) (upd (zA s0 42) (Int32.toNatClampNeg (zI s0 47)) v4) (zA s0 43) (zA s0 44) (zA s0 45) (zA s0 46))) hx hb hK hP hD hS 4 0 rfl rfl hi5 rfl dX11_entry_51 (fun H locs hP hD hS => ?_)
    refine lv_aload_n hx hb dX11_entry_52 rfl (lv_at hl 0 rfl) ?_
    refine zget (v := .ref (a0 43)) hx hb hown hT hK hP inX11 rfl smX11 0 rfl 43 (by decide) tb_1045 rfl dX11_entry_53 ?_
    refine lv_aload_n hx hb dX11_entry_56 rfl (lv_at hl 0 rfl) ?_
    refine zget (v := .int (zI s0 47)) hx hb hown hT hK hP inX11 rfl smX11 0 rfl 47 (by decide) tb_1049 rfl dX11_entry_57 ?_
    refine lv_iload hx hb dX11_entry_60 (lv_at hl 5 rfl) ?_
    obtain ⟨hi6, hf⟩ := zck_some hf
    refine zast (ws' := (wd_Mo_entry cy o0 a0 (zI s0) (zL s0) (upd (zA s0 39) (Int32.toNatClampNeg (zI s0 47)) v1) (upd (zA s0 40) (Int32.toNatClampNeg (zI s0 47)) v2) (upd (zA s0 41) (Int32.toNatClampNeg (zI s0 47)) v3) (upd (zA s0 42) (Int32.toNatClampNeg (zI s0 47)) v4) (upd (zA s0 43) (Int32.toNatClampNeg (zI s0 47)) v5) (zA s0 44) (zA s0 45) (zA s0 46))) hx hb hK hP hD hS 5 0 rfl rfl hi6 rfl dX11_entry_62 (fun H locs hP hD hS => ?_)
    refine lv_aload_n hx hb dX11_entry_63 rfl (lv_at hl 0 rfl) ?_
    refine zget (v := .ref (a0 44)) hx hb hown hT hK hP inX11 rfl smX11 0 rfl 44 (by decide) tb_1046 rfl dX11_entry_64 ?_
    refine lv_aload_n hx hb dX11_entry_67 rfl (lv_at hl 0 rfl) ?_
    refine zget (v := .int (zI s0 47)) hx hb hown hT hK hP inX11 rfl smX11 0 rfl 47 (by decide) tb_1049 rfl dX11_entry_68 ?_
    refine lv_iload hx hb dX11_entry_71 (lv_at hl 6 rfl) ?_
    obtain ⟨hi7, hf⟩ := zck_some hf
    refine zast (ws' := (wd_Mo_entry cy o0 a0 (zI s0) (zL s0) (upd (zA s0 39) (Int32.toNatClampNeg (zI s0 47)) v1) (upd (zA s0 40) (Int32.toNatClampNeg (zI s0 47)) v2) (upd (zA s0 41) (Int32.toNatClampNeg (zI s0 47)) v3) (upd (zA s0 42) (Int32.toNatClampNeg (zI s0 47)) v4) (upd (zA s0 43) (Int32.toNatClampNeg (zI s0 47)) v5) (upd (zA s0 44) (Int32.toNatClampNeg (zI s0 47)) v6) (zA s0 45) (zA s0 46))) hx hb hK hP hD hS 6 0 rfl rfl hi7 rfl dX11_entry_73 (fun H locs hP hD hS => ?_)
    refine lv_aload_n hx hb dX11_entry_74 rfl (lv_at hl 0 rfl) ?_
    refine zget (v := .ref (a0 45)) hx hb hown hT hK hP inX11 rfl smX11 0 rfl 45 (by decide) tb_1047 rfl dX11_entry_75 ?_
    refine lv_aload_n hx hb dX11_entry_78 rfl (lv_at hl 0 rfl) ?_
    refine zget (v := .int (zI s0 47)) hx hb hown hT hK hP inX11 rfl smX11 0 rfl 47 (by decide) tb_1049 rfl dX11_entry_79 ?_
    refine lv_aload_n hx hb dX11_entry_82 rfl (lv_at hl 0 rfl) ?_
    refine zget (v := .int (zI s0 48)) hx hb hown hT hK hP inX11 rfl smX11 0 rfl 48 (by decide) tb_1050 rfl dX11_entry_83 ?_
    obtain ⟨hi8, hf⟩ := zck_some hf
    refine zast (ws' := (wd_Mo_entry cy o0 a0 (zI s0) (zL s0) (upd (zA s0 39) (Int32.toNatClampNeg (zI s0 47)) v1) (upd (zA s0 40) (Int32.toNatClampNeg (zI s0 47)) v2) (upd (zA s0 41) (Int32.toNatClampNeg (zI s0 47)) v3) (upd (zA s0 42) (Int32.toNatClampNeg (zI s0 47)) v4) (upd (zA s0 43) (Int32.toNatClampNeg (zI s0 47)) v5) (upd (zA s0 44) (Int32.toNatClampNeg (zI s0 47)) v6) (upd (zA s0 45) (Int32.toNatClampNeg (zI s0 47)) (zI s0 48)) (zA s0 46))) hx hb hK hP hD hS 7 0 rfl rfl hi8 rfl dX11_entry_86 (fun H locs hP hD hS => ?_)
    exact k_Mo_entry_b87 C0 (zsA (zsA (zsA (zsA (zsA (zsA (zsA s0 39 (upd (zA s0 39) (Int32.toNatClampNeg (zI s0 47)) v1)) 40 (upd (zA s0 40) (Int32.toNatClampNeg (zI s0 47)) v2)) 41 (upd (zA s0 41) (Int32.toNatClampNeg (zI s0 47)) v3)) 42 (upd (zA s0 42) (Int32.toNatClampNeg (zI s0 47)) v4)) 43 (upd (zA s0 43) (Int32.toNatClampNeg (zI s0 47)) v5)) 44 (upd (zA s0 44) (Int32.toNatClampNeg (zI s0 47)) v6)) 45 (upd (zA s0 45) (Int32.toNatClampNeg (zI s0 47)) (zI s0 48)))  hA hP hD hS hf _ (lv_sub hl [0] rfl)
  · have hf := zif_t hb_1 hf
    refine lv_iconst (v := (-1)) hx hb dX11_entry_9 (by decide) ?_
    cases hf
    exact zewi hx hb hr hk hK hP hD hS dX11_entry_10
set_option maxHeartbeats 4000000 in
set_option maxRecDepth 100000 in
theorem c_Mo_entry {l : Launch} {dC : Nat → ClassId} {dI : Nat → Nat → Nat} {cy : Nat → ClassId} {sz : Nat} {N : Nat} (o0 : Nat) (a0 : Nat → Nat) (s0 : zSt) (v1 : Int32) (v2 : Int32) (v3 : Int32) (v4 : Int32) (v5 : Int32) (v6 : Int32) {y : Int32 × zSt} (hf : Mo_entry N s0 v1 v2 v3 v4 v5 v6 = some y) : Met l yX11_entry (.code yX11_entry cX11_entry 7 (some .int) :: zt) rm_Mo_entry (va_Pc [.ref o0, .int v1, .int v2, .int v3, .int v4, .int v5, .int v6] (zPre (dC, dI) cy (wd_Mo_entry cy o0 a0 (zI s0) (zL s0) (zA s0 39) (zA s0 40) (zA s0 41) (zA s0 42) (zA s0 43) (zA s0 44) (zA s0 45) (zA s0 46)) sz)) (zQi y.1 (dC, dI) cy (wd_Mo_entry cy o0 a0 (zI y.2) (zL y.2) (zA y.2 39) (zA y.2 40) (zA y.2 41) (zA y.2 42) (zA y.2 43) (zA y.2 44) (zA y.2 45) (zA y.2 46)) (va_A (wd_Mo_entry cy o0 a0 (zI s0) (zL s0) (zA s0 39) (zA s0 40) (zA s0 41) (zA s0 42) (zA s0 43) (zA s0 44) (zA s0 45) (zA s0 46)) sz)) 0 0 (va_A (wd_Mo_entry cy o0 a0 (zI s0) (zL s0) (zA s0 39) (zA s0 40) (zA s0 41) (zA s0 42) (zA s0 43) (zA s0 44) (zA s0 45) (zA s0 46)) sz) :=
  zentW (Qw := fun A => (zQi y.1 (dC, dI) cy (wd_Mo_entry cy o0 a0 (zI y.2) (zL y.2) (zA y.2 39) (zA y.2 40) (zA y.2 41) (zA y.2 42) (zA y.2 43) (zA y.2 44) (zA y.2 45) (zA y.2 46)) A)) (by decide +kernel) (Nat.le_of_ble_eq_true rfl) (fun p e s m below meth c A C0 hA hP hD hS ls hl => k_Mo_entry_b0 C0 s0 v1 v2 v3 v4 v5 v6 hA hP hD hS hf ls hl)
def wd_Mo_sound (cy : Nat → ClassId) (o0 : Nat) (a0 : Nat → Nat) (g0 : Nat → Int32) (h0 : Nat → Int64) (x0_39 : Nat → Int32) (x0_40 : Nat → Int32) (x0_41 : Nat → Int32) (x0_42 : Nat → Int32) (x0_43 : Nat → Int32) (x0_44 : Nat → Int32) (x0_45 : Nat → Int32) (x0_46 : Nat → Int32) : va_W := [(o0, .inr (11, fs_Mo a0 g0 h0)), (a0 39, .inl (cy 0, 40, .inl x0_39)), (a0 40, .inl (cy 0, 40, .inl x0_40)), (a0 41, .inl (cy 0, 40, .inl x0_41)), (a0 42, .inl (cy 0, 40, .inl x0_42)), (a0 43, .inl (cy 0, 40, .inl x0_43)), (a0 44, .inl (cy 0, 40, .inl x0_44)), (a0 45, .inl (cy 0, 40, .inl x0_45)), (a0 46, .inl (cy 0, 40, .inl x0_46))]
def rm_Mo_sound : Room := { frames := 3, cells := 0, slots := 0, locals := 83 }
theorem rm_ok_Mo_sound_Mo_entry : rm_Mo_entry.cells = 0 ∧ rm_Mo_entry.slots = 0 ∧ rm_Mo_entry.frames + 1 ≤ rm_Mo_sound.frames ∧ 8 + (7 + 11) + rm_Mo_entry.locals ≤ rm_Mo_sound.locals := by decide
theorem rm_ok_Mo_sound_Mo_isEar : rm_Mo_isEar.cells = 0 ∧ rm_Mo_isEar.slots = 0 ∧ rm_Mo_isEar.frames + 1 ≤ rm_Mo_sound.frames ∧ 8 + (2 + 11) + rm_Mo_isEar.locals ≤ rm_Mo_sound.locals := by decide
theorem rm_ok_Mo_sound_Mo_isIn : rm_Mo_isIn.cells = 0 ∧ rm_Mo_isIn.slots = 0 ∧ rm_Mo_isIn.frames + 1 ≤ rm_Mo_sound.frames ∧ 8 + (3 + 11) + rm_Mo_isIn.locals ≤ rm_Mo_sound.locals := by decide
theorem rm_ok_Mo_sound_Mo_isQuarter : rm_Mo_isQuarter.cells = 0 ∧ rm_Mo_isQuarter.slots = 0 ∧ rm_Mo_isQuarter.frames + 1 ≤ rm_Mo_sound.frames ∧ 8 + (1 + 11) + rm_Mo_isQuarter.locals ≤ rm_Mo_sound.locals := by decide
theorem rm_ok_Mo_sound_Mo_isTone : rm_Mo_isTone.cells = 0 ∧ rm_Mo_isTone.slots = 0 ∧ rm_Mo_isTone.frames + 1 ≤ rm_Mo_sound.frames ∧ 8 + (1 + 11) + rm_Mo_isTone.locals ≤ rm_Mo_sound.locals := by decide
set_option maxHeartbeats 4000000 in
set_option maxRecDepth 100000 in
theorem k_Mo_sound_b0 {p : Program} {l : Launch} {e : Env} {s : State} {m : MethodId} {args : Array Value} {below : List Frame} {meth : Method} {c : Code} {dC : Nat → ClassId} {dI : Nat → Nat → Nat} {cy : Nat → ClassId} {A : Nat → Prop} {o0 : Nat} {a0 : Nat → Nat} {N : Nat} {y : Int32 × zSt} (C0 : zCx p s m args meth c cX11_sound 6 (some .int) RX11 (dC, dI) cy) (s0 : zSt) (v1 : Int32) (v2 : Int32) (v3 : Int32) (v4 : Int32) (v5 : Int32) (hA : ∀ q, s.heap.size ≤ q → A q) {H : Heap} {locs : List Loc} (hP : va_P (dC, dI) vwCl (wd_Mo_sound cy o0 a0 (zI s0) (zL s0) (zA s0 39) (zA s0 40) (zA s0 41) (zA s0 42) (zA s0 43) (zA s0 44) (zA s0 45) (zA s0 46)) H) (hD : va_D A (wd_Mo_sound cy o0 a0 (zI s0) (zL s0) (zA s0 39) (zA s0 40) (zA s0 41) (zA s0 42) (zA s0 43) (zA s0 44) (zA s0 45) (zA s0 46))) (hS : va_S A s.heap H locs) (hf : Mo_sound_b0 N s0 v1 v2 v3 v4 v5 = some y) (ls : Array Slot) (hl : lv_has ls 6 [(0, .ref o0), (1, .int v1), (2, .int v2), (3, .int v3), (4, .int v4), (5, .int v5)]) : W p l e rm_Mo_sound s m args below meth c H locs 0 0 (MQ below (zQi y.1 (dC, dI) cy (wd_Mo_sound cy o0 a0 (zI y.2) (zL y.2) (zA y.2 39) (zA y.2 40) (zA y.2 41) (zA y.2 42) (zA y.2 43) (zA y.2 44) (zA y.2 45) (zA y.2 46)) A) args s 0 0 A) (F0 m 0 ls []) := by
  obtain ⟨hx, hb, hr, hml, hown, hT, hk, hK⟩ := id C0
  refine lv_iload_n hx hb dX11_sound_0 rfl (lv_at hl 1 rfl) ?_
  obtain ⟨z1, hc2, hf⟩ := zbd_some hf
  refine zri (zS (As := [.int v1]) hx hb hml hown hT hl.1 (c_Mo_isQuarter v1 hc2) zY_Mo_isQuarter tb_1382 (zpS hK hP [] rfl) rm_ok_Mo_sound_Mo_isQuarter rfl rfl (Nat.le_of_ble_eq_true rfl) dX11_sound_1 ⟨Nat.zero_le _, Nat.zero_le _⟩) ?_
  refine lv_if_eq (tgt := 62) hx hb dX11_sound_4 (by decide) (fun hb_3 => ?_) (fun hb_3 => ?_)
  · have hf := zif_t hb_3 hf
    refine lv_iconst (v := (-1)) hx hb dX11_sound_62 (by decide) ?_
    cases hf
    exact zewi hx hb hr hk hK hP hD hS dX11_sound_63
  · have hf := zif_f hb_3 hf
    refine lv_aload_n hx hb dX11_sound_7 rfl (lv_at hl 0 rfl) ?_
    refine lv_iload_n hx hb dX11_sound_8 rfl (lv_at hl 2 rfl) ?_
    obtain ⟨z4, hc5, hf⟩ := zbd_some hf
    refine zri (zV (As := [.int v2]) hx hb hml hown hT hl.1 (c_Mo_isEar o0 a0 s0 v2 hc5) zY_Mo_isEar tb_1333 (zpR hK hP [0] rfl 0 11 rfl rfl rfl) rm_ok_Mo_sound_Mo_isEar rfl rfl (Nat.le_of_ble_eq_true rfl) dX11_sound_9 ⟨Nat.zero_le _, Nat.zero_le _⟩) ?_
    refine lv_if_eq (tgt := 62) hx hb dX11_sound_12 (by decide) (fun hb_6 => ?_) (fun hb_6 => ?_)
    · have hf := zif_t hb_6 hf
      refine lv_iconst (v := (-1)) hx hb dX11_sound_62 (by decide) ?_
      cases hf
      exact zewi hx hb hr hk hK hP hD hS dX11_sound_63
    · have hf := zif_f hb_6 hf
      refine lv_iload_n hx hb dX11_sound_15 rfl (lv_at hl 3 rfl) ?_
      obtain ⟨z7, hc8, hf⟩ := zbd_some hf
      refine zri (zS (As := [.int v3]) hx hb hml hown hT hl.1 (c_Mo_isTone v3 hc8) zY_Mo_isTone tb_1337 (zpS hK hP [] rfl) rm_ok_Mo_sound_Mo_isTone rfl rfl (Nat.le_of_ble_eq_true rfl) dX11_sound_16 ⟨Nat.zero_le _, Nat.zero_le _⟩) ?_
      refine lv_if_eq (tgt := 62) hx hb dX11_sound_19 (by decide) (fun hb_9 => ?_) (fun hb_9 => ?_)
      · have hf := zif_t hb_9 hf
        refine lv_iconst (v := (-1)) hx hb dX11_sound_62 (by decide) ?_
        cases hf
        exact zewi hx hb hr hk hK hP hD hS dX11_sound_63
      · have hf := zif_f hb_9 hf
        refine lv_iload hx hb dX11_sound_22 (lv_at hl 4 rfl) ?_
        refine lv_iconst (v := 0) hx hb dX11_sound_24 (by decide) ?_
        refine lv_sipush (v := 999) hx hb dX11_sound_25 (by decide) ?_
        obtain ⟨z10, hc11, hf⟩ := zbd_some hf
        refine zri (zS (As := [.int v4, .int 0, .int 999]) hx hb hml hown hT hl.1 (c_Mo_isIn v4 0 999 hc11) zY_Mo_isIn tb_1319 (zpS hK hP [] rfl) rm_ok_Mo_sound_Mo_isIn rfl rfl (Nat.le_of_ble_eq_true rfl) dX11_sound_28 ⟨Nat.zero_le _, Nat.zero_le _⟩) ?_
        refine lv_if_eq (tgt := 62) hx hb dX11_sound_31 (by decide) (fun hb_12 => ?_) (fun hb_12 => ?_)
        · have hf := zif_t hb_12 hf
          refine lv_iconst (v := (-1)) hx hb dX11_sound_62 (by decide) ?_
          cases hf
          exact zewi hx hb hr hk hK hP hD hS dX11_sound_63
        · have hf := zif_f hb_12 hf
          refine lv_iload hx hb dX11_sound_34 (lv_at hl 5 rfl) ?_
          refine lv_iload hx hb dX11_sound_36 (lv_at hl 4 rfl) ?_
          refine lv_sipush (v := 999) hx hb dX11_sound_38 (by decide) ?_
          obtain ⟨z13, hc14, hf⟩ := zbd_some hf
          refine zri (zS (As := [.int v5, .int v4, .int 999]) hx hb hml hown hT hl.1 (c_Mo_isIn v5 v4 999 hc14) zY_Mo_isIn tb_1319 (zpS hK hP [] rfl) rm_ok_Mo_sound_Mo_isIn rfl rfl (Nat.le_of_ble_eq_true rfl) dX11_sound_41 ⟨Nat.zero_le _, Nat.zero_le _⟩) ?_
          refine lv_if_eq (tgt := 62) hx hb dX11_sound_44 (by decide) (fun hb_15 => ?_) (fun hb_15 => ?_)
          · have hf := zif_t hb_15 hf
            refine lv_iconst (v := (-1)) hx hb dX11_sound_62 (by decide) ?_
            cases hf
            exact zewi hx hb hr hk hK hP hD hS dX11_sound_63
          · have hf := zif_f hb_15 hf
            refine lv_aload_n hx hb dX11_sound_47 rfl (lv_at hl 0 rfl) ?_
            refine lv_iconst (v := 0) hx hb dX11_sound_48 (by decide) ?_
            refine lv_iload_n hx hb dX11_sound_49 rfl (lv_at hl 1 rfl) ?_
            refine lv_iload_n hx hb dX11_sound_50 rfl (lv_at hl 2 rfl) ?_
            refine lv_iload_n hx hb dX11_sound_51 rfl (lv_at hl 3 rfl) ?_
            refine lv_iload hx hb dX11_sound_52 (lv_at hl 4 rfl) ?_
            refine lv_iload hx hb dX11_sound_54 (lv_at hl 5 rfl) ?_
            obtain ⟨z16, hc17, hf⟩ := zbd_some hf
            refine zwi (wr := []) (ws' := (wd_Mo_sound cy o0 a0 (zI z16.2) (zL z16.2) (zA z16.2 39) (zA z16.2 40) (zA z16.2 41) (zA z16.2 42) (zA z16.2 43) (zA z16.2 44) (zA z16.2 45) (zA z16.2 46))) (zV (As := [.int 0, .int v1, .int v2, .int v3, .int v4, .int v5]) hx hb hml hown hT hl.1 (c_Mo_entry o0 a0 s0 0 v1 v2 v3 v4 v5 hc17) zY_Mo_entry tb_1385 (zpRw hK hP hD [0, 1, 2, 3, 4, 5, 6, 7, 8] (by decide) rfl 0 11 rfl rfl rfl rfl) rm_ok_Mo_sound_Mo_entry rfl rfl (Nat.le_of_ble_eq_true rfl) dX11_sound_56 ⟨Nat.zero_le _, Nat.zero_le _⟩) hP hD hS hA [0, 1, 2, 3, 4, 5, 6, 7, 8] [] [0, 1, 2, 3, 4, 5, 6, 7, 8] rfl rfl (by decide) (by decide) (by decide) rfl rfl (fun H locs hP hD hS => ?_)
            refine lv_goto (tgt := 63) hx hb dX11_sound_59 (by decide) ?_
            cases hf
            exact zewi hx hb hr hk hK hP hD hS dX11_sound_63
set_option maxHeartbeats 4000000 in
set_option maxRecDepth 100000 in
theorem c_Mo_sound {l : Launch} {dC : Nat → ClassId} {dI : Nat → Nat → Nat} {cy : Nat → ClassId} {sz : Nat} {N : Nat} (o0 : Nat) (a0 : Nat → Nat) (s0 : zSt) (v1 : Int32) (v2 : Int32) (v3 : Int32) (v4 : Int32) (v5 : Int32) {y : Int32 × zSt} (hf : Mo_sound N s0 v1 v2 v3 v4 v5 = some y) : Met l yX11_sound (.code yX11_sound cX11_sound 6 (some .int) :: zt) rm_Mo_sound (va_Pc [.ref o0, .int v1, .int v2, .int v3, .int v4, .int v5] (zPre (dC, dI) cy (wd_Mo_sound cy o0 a0 (zI s0) (zL s0) (zA s0 39) (zA s0 40) (zA s0 41) (zA s0 42) (zA s0 43) (zA s0 44) (zA s0 45) (zA s0 46)) sz)) (zQi y.1 (dC, dI) cy (wd_Mo_sound cy o0 a0 (zI y.2) (zL y.2) (zA y.2 39) (zA y.2 40) (zA y.2 41) (zA y.2 42) (zA y.2 43) (zA y.2 44) (zA y.2 45) (zA y.2 46)) (va_A (wd_Mo_sound cy o0 a0 (zI s0) (zL s0) (zA s0 39) (zA s0 40) (zA s0 41) (zA s0 42) (zA s0 43) (zA s0 44) (zA s0 45) (zA s0 46)) sz)) 0 0 (va_A (wd_Mo_sound cy o0 a0 (zI s0) (zL s0) (zA s0 39) (zA s0 40) (zA s0 41) (zA s0 42) (zA s0 43) (zA s0 44) (zA s0 45) (zA s0 46)) sz) :=
  zentW (Qw := fun A => (zQi y.1 (dC, dI) cy (wd_Mo_sound cy o0 a0 (zI y.2) (zL y.2) (zA y.2 39) (zA y.2 40) (zA y.2 41) (zA y.2 42) (zA y.2 43) (zA y.2 44) (zA y.2 45) (zA y.2 46)) A)) (by decide +kernel) (Nat.le_of_ble_eq_true rfl) (fun p e s m below meth c A C0 hA hP hD hS ls hl => k_Mo_sound_b0 C0 s0 v1 v2 v3 v4 v5 hA hP hD hS hf ls hl)
def wd_Mo_evening (cy : Nat → ClassId) (o0 : Nat) (a0 : Nat → Nat) (g0 : Nat → Int32) (h0 : Nat → Int64) (x0_39 : Nat → Int32) (x0_40 : Nat → Int32) (x0_41 : Nat → Int32) (x0_42 : Nat → Int32) (x0_43 : Nat → Int32) (x0_44 : Nat → Int32) (x0_45 : Nat → Int32) (x0_46 : Nat → Int32) : va_W := [(o0, .inr (11, fs_Mo a0 g0 h0)), (a0 39, .inl (cy 0, 40, .inl x0_39)), (a0 40, .inl (cy 0, 40, .inl x0_40)), (a0 41, .inl (cy 0, 40, .inl x0_41)), (a0 42, .inl (cy 0, 40, .inl x0_42)), (a0 43, .inl (cy 0, 40, .inl x0_43)), (a0 44, .inl (cy 0, 40, .inl x0_44)), (a0 45, .inl (cy 0, 40, .inl x0_45)), (a0 46, .inl (cy 0, 40, .inl x0_46))]
def rm_Mo_evening : Room := { frames := 2, cells := 0, slots := 0, locals := 66 }
theorem rm_ok_Mo_evening_Mo_entry : rm_Mo_entry.cells = 0 ∧ rm_Mo_entry.slots = 0 ∧ rm_Mo_entry.frames + 1 ≤ rm_Mo_evening.frames ∧ 8 + (7 + 11) + rm_Mo_entry.locals ≤ rm_Mo_evening.locals := by decide
theorem rm_ok_Mo_evening_Mo_isIn : rm_Mo_isIn.cells = 0 ∧ rm_Mo_isIn.slots = 0 ∧ rm_Mo_isIn.frames + 1 ≤ rm_Mo_evening.frames ∧ 8 + (3 + 11) + rm_Mo_isIn.locals ≤ rm_Mo_evening.locals := by decide
set_option maxHeartbeats 4000000 in
set_option maxRecDepth 100000 in
theorem k_Mo_evening_b0 {p : Program} {l : Launch} {e : Env} {s : State} {m : MethodId} {args : Array Value} {below : List Frame} {meth : Method} {c : Code} {dC : Nat → ClassId} {dI : Nat → Nat → Nat} {cy : Nat → ClassId} {A : Nat → Prop} {o0 : Nat} {a0 : Nat → Nat} {N : Nat} {y : Int32 × zSt} (C0 : zCx p s m args meth c cX11_evening 3 (some .int) RX11 (dC, dI) cy) (s0 : zSt) (v1 : Int32) (v2 : Int32) (hA : ∀ q, s.heap.size ≤ q → A q) {H : Heap} {locs : List Loc} (hP : va_P (dC, dI) vwCl (wd_Mo_evening cy o0 a0 (zI s0) (zL s0) (zA s0 39) (zA s0 40) (zA s0 41) (zA s0 42) (zA s0 43) (zA s0 44) (zA s0 45) (zA s0 46)) H) (hD : va_D A (wd_Mo_evening cy o0 a0 (zI s0) (zL s0) (zA s0 39) (zA s0 40) (zA s0 41) (zA s0 42) (zA s0 43) (zA s0 44) (zA s0 45) (zA s0 46))) (hS : va_S A s.heap H locs) (hf : Mo_evening_b0 N s0 v1 v2 = some y) (ls : Array Slot) (hl : lv_has ls 3 [(0, .ref o0), (1, .int v1), (2, .int v2)]) : W p l e rm_Mo_evening s m args below meth c H locs 0 0 (MQ below (zQi y.1 (dC, dI) cy (wd_Mo_evening cy o0 a0 (zI y.2) (zL y.2) (zA y.2 39) (zA y.2 40) (zA y.2 41) (zA y.2 42) (zA y.2 43) (zA y.2 44) (zA y.2 45) (zA y.2 46)) A) args s 0 0 A) (F0 m 0 ls []) := by
  obtain ⟨hx, hb, hr, hml, hown, hT, hk, hK⟩ := id C0
  refine lv_iload_n hx hb dX11_evening_0 rfl (lv_at hl 1 rfl) ?_
  refine lv_iconst (v := 0) hx hb dX11_evening_1 (by decide) ?_
  refine lv_bipush (v := 20) hx hb dX11_evening_2 (by decide) ?_
  obtain ⟨z1, hc2, hf⟩ := zbd_some hf
  refine zri (zS (As := [.int v1, .int 0, .int 20]) hx hb hml hown hT hl.1 (c_Mo_isIn v1 0 20 hc2) zY_Mo_isIn tb_1319 (zpS hK hP [] rfl) rm_ok_Mo_evening_Mo_isIn rfl rfl (Nat.le_of_ble_eq_true rfl) dX11_evening_4 ⟨Nat.zero_le _, Nat.zero_le _⟩) ?_
  refine lv_if_eq (tgt := 34) hx hb dX11_evening_7 (by decide) (fun hb_3 => ?_) (fun hb_3 => ?_)
  · have hf := zif_t hb_3 hf
    refine lv_iconst (v := (-1)) hx hb dX11_evening_34 (by decide) ?_
    cases hf
    exact zewi hx hb hr hk hK hP hD hS dX11_evening_35
  · have hf := zif_f hb_3 hf
    refine lv_iload_n hx hb dX11_evening_10 rfl (lv_at hl 2 rfl) ?_
    refine lv_iconst (v := 0) hx hb dX11_evening_11 (by decide) ?_
    refine lv_sipush (v := 4095) hx hb dX11_evening_12 (by decide) ?_
    obtain ⟨z4, hc5, hf⟩ := zbd_some hf
    refine zri (zS (As := [.int v2, .int 0, .int 4095]) hx hb hml hown hT hl.1 (c_Mo_isIn v2 0 4095 hc5) zY_Mo_isIn tb_1319 (zpS hK hP [] rfl) rm_ok_Mo_evening_Mo_isIn rfl rfl (Nat.le_of_ble_eq_true rfl) dX11_evening_15 ⟨Nat.zero_le _, Nat.zero_le _⟩) ?_
    refine lv_if_eq (tgt := 34) hx hb dX11_evening_18 (by decide) (fun hb_6 => ?_) (fun hb_6 => ?_)
    · have hf := zif_t hb_6 hf
      refine lv_iconst (v := (-1)) hx hb dX11_evening_34 (by decide) ?_
      cases hf
      exact zewi hx hb hr hk hK hP hD hS dX11_evening_35
    · have hf := zif_f hb_6 hf
      refine lv_aload_n hx hb dX11_evening_21 rfl (lv_at hl 0 rfl) ?_
      refine lv_iconst (v := 1) hx hb dX11_evening_22 (by decide) ?_
      refine lv_iload_n hx hb dX11_evening_23 rfl (lv_at hl 1 rfl) ?_
      refine lv_iconst (v := 0) hx hb dX11_evening_24 (by decide) ?_
      refine lv_iload_n hx hb dX11_evening_25 rfl (lv_at hl 2 rfl) ?_
      refine lv_iconst (v := 0) hx hb dX11_evening_26 (by decide) ?_
      refine lv_iconst (v := 0) hx hb dX11_evening_27 (by decide) ?_
      obtain ⟨z7, hc8, hf⟩ := zbd_some hf
      refine zwi (wr := []) (ws' := (wd_Mo_evening cy o0 a0 (zI z7.2) (zL z7.2) (zA z7.2 39) (zA z7.2 40) (zA z7.2 41) (zA z7.2 42) (zA z7.2 43) (zA z7.2 44) (zA z7.2 45) (zA z7.2 46))) (zV (As := [.int 1, .int v1, .int 0, .int v2, .int 0, .int 0]) hx hb hml hown hT hl.1 (c_Mo_entry o0 a0 s0 1 v1 0 v2 0 0 hc8) zY_Mo_entry tb_1385 (zpRw hK hP hD [0, 1, 2, 3, 4, 5, 6, 7, 8] (by decide) rfl 0 11 rfl rfl rfl rfl) rm_ok_Mo_evening_Mo_entry rfl rfl (Nat.le_of_ble_eq_true rfl) dX11_evening_28 ⟨Nat.zero_le _, Nat.zero_le _⟩) hP hD hS hA [0, 1, 2, 3, 4, 5, 6, 7, 8] [] [0, 1, 2, 3, 4, 5, 6, 7, 8] rfl rfl (by decide) (by decide) (by decide) rfl rfl (fun H locs hP hD hS => ?_)
      refine lv_goto (tgt := 35) hx hb dX11_evening_31 (by decide) ?_
      cases hf
      exact zewi hx hb hr hk hK hP hD hS dX11_evening_35
set_option maxHeartbeats 4000000 in
set_option maxRecDepth 100000 in
theorem c_Mo_evening {l : Launch} {dC : Nat → ClassId} {dI : Nat → Nat → Nat} {cy : Nat → ClassId} {sz : Nat} {N : Nat} (o0 : Nat) (a0 : Nat → Nat) (s0 : zSt) (v1 : Int32) (v2 : Int32) {y : Int32 × zSt} (hf : Mo_evening N s0 v1 v2 = some y) : Met l yX11_evening (.code yX11_evening cX11_evening 3 (some .int) :: zt) rm_Mo_evening (va_Pc [.ref o0, .int v1, .int v2] (zPre (dC, dI) cy (wd_Mo_evening cy o0 a0 (zI s0) (zL s0) (zA s0 39) (zA s0 40) (zA s0 41) (zA s0 42) (zA s0 43) (zA s0 44) (zA s0 45) (zA s0 46)) sz)) (zQi y.1 (dC, dI) cy (wd_Mo_evening cy o0 a0 (zI y.2) (zL y.2) (zA y.2 39) (zA y.2 40) (zA y.2 41) (zA y.2 42) (zA y.2 43) (zA y.2 44) (zA y.2 45) (zA y.2 46)) (va_A (wd_Mo_evening cy o0 a0 (zI s0) (zL s0) (zA s0 39) (zA s0 40) (zA s0 41) (zA s0 42) (zA s0 43) (zA s0 44) (zA s0 45) (zA s0 46)) sz)) 0 0 (va_A (wd_Mo_evening cy o0 a0 (zI s0) (zL s0) (zA s0 39) (zA s0 40) (zA s0 41) (zA s0 42) (zA s0 43) (zA s0 44) (zA s0 45) (zA s0 46)) sz) :=
  zentW (Qw := fun A => (zQi y.1 (dC, dI) cy (wd_Mo_evening cy o0 a0 (zI y.2) (zL y.2) (zA y.2 39) (zA y.2 40) (zA y.2 41) (zA y.2 42) (zA y.2 43) (zA y.2 44) (zA y.2 45) (zA y.2 46)) A)) (by decide +kernel) (Nat.le_of_ble_eq_true rfl) (fun p e s m below meth c A C0 hA hP hD hS ls hl => k_Mo_evening_b0 C0 s0 v1 v2 hA hP hD hS hf ls hl)
