set_option maxHeartbeats 4000000 in
set_option maxRecDepth 100000 in
theorem k_Law_b18 {p : Program} {l : Launch} {e : Env} {s : State} {m : MethodId} {below : List Frame} {meth : Method} {c : Code} {dC : Nat → ClassId} {dI : Nat → Nat → Nat} {cy : Nat → ClassId} {b L : Nat} {xs : Nat → Int32} {o0 : Nat} {a0 : Nat → Nat} {o1 : Nat} {a1 : Nat → Nat} {a2 : Nat → Nat} {a3 : Nat → Nat} {a4 : Nat → Nat} {a5 : Nat → Nat} {a6 : Nat → Nat} {a7 : Nat → Nat} {a8 : Nat → Nat} {a9 : Nat → Nat} {a10 : Nat → Nat} {a11 : Nat → Nat} {a12 : Nat → Nat} {b13 : Nat → Nat} {a14 : Nat → Nat} {a15 : Nat → Nat} {a16 : Nat → Nat} {N : Nat} {kh18 : zSt → zSt → zSt → zSt → zSt → zSt → zSt → zSt → zSt → zSt → zSt → zSt → zSt → zSt → zSt → zSt → Int32 → Option Unit} (C0 : zLx p s m meth c b L xs (dC, dI) cy) (s0 s1 s2 s3 s4 s5 s6 s7 s8 s9 s10 s11 s12 s14 s15 s16 : zSt) (v3 : Int32) (hk18 : ∀ {o0 : Nat} {a0 : Nat → Nat} {o1 : Nat} {a1 : Nat → Nat} {a2 : Nat → Nat} {a3 : Nat → Nat} {a4 : Nat → Nat} {a5 : Nat → Nat} {a6 : Nat → Nat} {a7 : Nat → Nat} {a8 : Nat → Nat} {a9 : Nat → Nat} {a10 : Nat → Nat} {a11 : Nat → Nat} {a12 : Nat → Nat} {b13 : Nat → Nat} {a14 : Nat → Nat} {a15 : Nat → Nat} {a16 : Nat → Nat} (s0 s1 s2 s3 s4 s5 s6 s7 s8 s9 s10 s11 s12 s14 s15 s16 : zSt) (v3 : Int32) {H : Heap} {locs : List Loc} (_ : va_P (dC, dI) vwCl (wd_Law cy o0 a0 (zI s0) (zL s0) (zA s0 0) (zA s0 10) o1 a1 (zI s1) (zL s1) (zA s1 0) (zB s1 10) (zA s1 11) (zA s1 12) (zA s1 13) (zA s1 14) (zA s1 15) (zA s1 16) (zA s1 17) (zA s1 18) (zA s1 19) (zA s1 20) (zA s1 21) (zA s1 33) (zA s1 39) (zA s1 40) (zA s1 41) (zA s1 42) (zA s1 43) (zA s1 44) (zA s1 45) (zA s1 46) (zA s1 49) (zA s1 56) (zA s1 57) (zA s1 59) (zA s1 60) (zA s1 62) (zA s1 63) a2 (zI s2) (zL s2) a3 (zI s3) (zL s3) (zB s3 1) (zA s3 2) (zB s3 4) (zA s3 5) (zA s3 6) (zA s3 7) (zA s3 10) (zB s3 13) (zA s3 14) a4 (zI s4) (zL s4) (zA s4 1) (zA s4 2) (zB s4 3) a5 (zI s5) (zL s5) (zA s5 5) a6 (zI s6) (zL s6) (zA s6 1) (zA s6 2) (zA s6 3) (zA s6 4) (zA s6 5) (zA s6 6) (zA s6 7) a7 (zI s7) (zL s7) a8 (zI s8) (zL s8) (zB s8 1) (zA s8 2) (zB s8 4) (zA s8 5) (zA s8 6) (zA s8 7) (zA s8 10) (zB s8 13) (zA s8 14) a9 (zI s9) (zL s9) (zA s9 1) (zA s9 3) (zA s9 4) (zA s9 5) a10 (zI s10) (zL s10) (zA s10 8) (zA s10 9) (zA s10 10) (zA s10 11) (zA s10 12) (zA s10 13) a11 (zI s11) (zL s11) (zA s11 1) (zA s11 3) (zA s11 4) (zA s11 5) (zA s11 6) (zA s11 7) a12 (zI s12) (zL s12) (zA s12 2) b13 a14 (zI s14) (zL s14) (zA s14 5) a15 (zI s15) (zL s15) (zA s15 5) a16 (zI s16) (zL s16) (zA s16 5)) H) (_ : va_D (zLA s) (wd_Law cy o0 a0 (zI s0) (zL s0) (zA s0 0) (zA s0 10) o1 a1 (zI s1) (zL s1) (zA s1 0) (zB s1 10) (zA s1 11) (zA s1 12) (zA s1 13) (zA s1 14) (zA s1 15) (zA s1 16) (zA s1 17) (zA s1 18) (zA s1 19) (zA s1 20) (zA s1 21) (zA s1 33) (zA s1 39) (zA s1 40) (zA s1 41) (zA s1 42) (zA s1 43) (zA s1 44) (zA s1 45) (zA s1 46) (zA s1 49) (zA s1 56) (zA s1 57) (zA s1 59) (zA s1 60) (zA s1 62) (zA s1 63) a2 (zI s2) (zL s2) a3 (zI s3) (zL s3) (zB s3 1) (zA s3 2) (zB s3 4) (zA s3 5) (zA s3 6) (zA s3 7) (zA s3 10) (zB s3 13) (zA s3 14) a4 (zI s4) (zL s4) (zA s4 1) (zA s4 2) (zB s4 3) a5 (zI s5) (zL s5) (zA s5 5) a6 (zI s6) (zL s6) (zA s6 1) (zA s6 2) (zA s6 3) (zA s6 4) (zA s6 5) (zA s6 6) (zA s6 7) a7 (zI s7) (zL s7) a8 (zI s8) (zL s8) (zB s8 1) (zA s8 2) (zB s8 4) (zA s8 5) (zA s8 6) (zA s8 7) (zA s8 10) (zB s8 13) (zA s8 14) a9 (zI s9) (zL s9) (zA s9 1) (zA s9 3) (zA s9 4) (zA s9 5) a10 (zI s10) (zL s10) (zA s10 8) (zA s10 9) (zA s10 10) (zA s10 11) (zA s10 12) (zA s10 13) a11 (zI s11) (zL s11) (zA s11 1) (zA s11 3) (zA s11 4) (zA s11 5) (zA s11 6) (zA s11 7) a12 (zI s12) (zL s12) (zA s12 2) b13 a14 (zI s14) (zL s14) (zA s14 5) a15 (zI s15) (zL s15) (zA s15 5) a16 (zI s16) (zL s16) (zA s16 5))) (_ : va_S (zLA s) s.heap H locs) (_ : kh18 s0 s1 s2 s3 s4 s5 s6 s7 s8 s9 s10 s11 s12 s14 s15 s16 v3 = some ()) (ls : Array Slot) (_ : lv_has ls 4 [(0, .ref b), (1, .ref o0), (2, .ref o1), (3, .int v3)]), W p l e room_1 s m #[Value.ref b] below meth c H locs 600000 7302250 (lw_Z below #[Value.ref b] s) (F0 m 18 ls [])) {H : Heap} {locs : List Loc} (hP : va_P (dC, dI) vwCl (wd_Law cy o0 a0 (zI s0) (zL s0) (zA s0 0) (zA s0 10) o1 a1 (zI s1) (zL s1) (zA s1 0) (zB s1 10) (zA s1 11) (zA s1 12) (zA s1 13) (zA s1 14) (zA s1 15) (zA s1 16) (zA s1 17) (zA s1 18) (zA s1 19) (zA s1 20) (zA s1 21) (zA s1 33) (zA s1 39) (zA s1 40) (zA s1 41) (zA s1 42) (zA s1 43) (zA s1 44) (zA s1 45) (zA s1 46) (zA s1 49) (zA s1 56) (zA s1 57) (zA s1 59) (zA s1 60) (zA s1 62) (zA s1 63) a2 (zI s2) (zL s2) a3 (zI s3) (zL s3) (zB s3 1) (zA s3 2) (zB s3 4) (zA s3 5) (zA s3 6) (zA s3 7) (zA s3 10) (zB s3 13) (zA s3 14) a4 (zI s4) (zL s4) (zA s4 1) (zA s4 2) (zB s4 3) a5 (zI s5) (zL s5) (zA s5 5) a6 (zI s6) (zL s6) (zA s6 1) (zA s6 2) (zA s6 3) (zA s6 4) (zA s6 5) (zA s6 6) (zA s6 7) a7 (zI s7) (zL s7) a8 (zI s8) (zL s8) (zB s8 1) (zA s8 2) (zB s8 4) (zA s8 5) (zA s8 6) (zA s8 7) (zA s8 10) (zB s8 13) (zA s8 14) a9 (zI s9) (zL s9) (zA s9 1) (zA s9 3) (zA s9 4) (zA s9 5) a10 (zI s10) (zL s10) (zA s10 8) (zA s10 9) (zA s10 10) (zA s10 11) (zA s10 12) (zA s10 13) a11 (zI s11) (zL s11) (zA s11 1) (zA s11 3) (zA s11 4) (zA s11 5) (zA s11 6) (zA s11 7) a12 (zI s12) (zL s12) (zA s12 2) b13 a14 (zI s14) (zL s14) (zA s14 5) a15 (zI s15) (zL s15) (zA s15 5) a16 (zI s16) (zL s16) (zA s16 5)) H) (hD : va_D (zLA s) (wd_Law cy o0 a0 (zI s0) (zL s0) (zA s0 0) (zA s0 10) o1 a1 (zI s1) (zL s1) (zA s1 0) (zB s1 10) (zA s1 11) (zA s1 12) (zA s1 13) (zA s1 14) (zA s1 15) (zA s1 16) (zA s1 17) (zA s1 18) (zA s1 19) (zA s1 20) (zA s1 21) (zA s1 33) (zA s1 39) (zA s1 40) (zA s1 41) (zA s1 42) (zA s1 43) (zA s1 44) (zA s1 45) (zA s1 46) (zA s1 49) (zA s1 56) (zA s1 57) (zA s1 59) (zA s1 60) (zA s1 62) (zA s1 63) a2 (zI s2) (zL s2) a3 (zI s3) (zL s3) (zB s3 1) (zA s3 2) (zB s3 4) (zA s3 5) (zA s3 6) (zA s3 7) (zA s3 10) (zB s3 13) (zA s3 14) a4 (zI s4) (zL s4) (zA s4 1) (zA s4 2) (zB s4 3) a5 (zI s5) (zL s5) (zA s5 5) a6 (zI s6) (zL s6) (zA s6 1) (zA s6 2) (zA s6 3) (zA s6 4) (zA s6 5) (zA s6 6) (zA s6 7) a7 (zI s7) (zL s7) a8 (zI s8) (zL s8) (zB s8 1) (zA s8 2) (zB s8 4) (zA s8 5) (zA s8 6) (zA s8 7) (zA s8 10) (zB s8 13) (zA s8 14) a9 (zI s9) (zL s9) (zA s9 1) (zA s9 3) (zA s9 4) (zA s9 5) a10 (zI s10) (zL s10) (zA s10 8) (zA s10 9) (zA s10 10) (zA s10 11) (zA s10 12) (zA s10 13) a11 (zI s11) (zL s11) (zA s11 1) (zA s11 3) (zA s11 4) (zA s11 5) (zA s11 6) (zA s11 7) a12 (zI s12) (zL s12) (zA s12 2) b13 a14 (zI s14) (zL s14) (zA s14 5) a15 (zI s15) (zL s15) (zA s15 5) a16 (zI s16) (zL s16) (zA s16 5))) (hS : va_S (zLA s) s.heap H locs) (hf : Law_b18 N kh18 L xs s0 s1 s2 s3 s4 s5 s6 s7 s8 s9 s10 s11 s12 s14 s15 s16 v3 = some ()) (ls : Array Slot) (hl : lv_has ls 4 [(0, .ref b), (1, .ref o0), (2, .ref o1), (3, .int v3)]) : W p l e room_1 s m #[Value.ref b] below meth c H locs 600000 7302250 (lw_Z below #[Value.ref b] s) (F0 m 18 ls []) := by
  obtain ⟨hx, hb, hr, hml, hown, hT, hX, hbl, hk, hK⟩ := id C0
  have hA : ∀ q : Nat, s.heap.size ≤ q → zLA s q := fun _ h => h
  have hbA : ¬ zLA s b := Nat.not_le.mpr hbl
  refine lv_iload_n hx hb dL_law_18 rfl (lv_at hl 3 rfl) ?_
  refine lv_aload_n hx hb dL_law_19 rfl (lv_at hl 0 rfl) ?_
  refine va_slen hx hb hX hbl hbA hS dL_law_20 ?_
  refine lv_bipush (v := 6) hx hb dL_law_21 (by decide) ?_
  refine lv_isub hx hb dL_law_23 ?_
  refine lv_icmp_gt (tgt := 1179) hx hb dL_law_24 (by decide) (fun hb_1 => ?_) (fun hb_1 => ?_)
  · have hf := zif_t hb_1 hf
    refine lv_iconst (v := 1) hx hb dL_law_1179 (by decide) ?_
    refine va_forget (fun q hq => hS.2.2 q hq) ?_
    exact lw_ret hx hb hr hk dL_law_1180
  · have hf := zif_f hb_1 hf
    refine lv_aload_n hx hb dL_law_27 rfl (lv_at hl 0 rfl) ?_
    refine lv_iload_n hx hb dL_law_28 rfl (lv_at hl 3 rfl) ?_
    obtain ⟨hi2, hf⟩ := zck_some hf
    refine va_sld hx hb hX hbl hbA hS hi2 dL_law_29 ?_
    refine lv_bipush (v := 31) hx hb dL_law_30 (by decide) ?_
    refine lv_iand hx hb dL_law_32 ?_
    by_cases hw30 : ((xs (Int32.toNatClampNeg v3)) &&& 31) = 0
    · have hf := zif_t hw30 hf
      refine lv_tableIn (off := 131) (tgt := 164) hx hb dL_law_33 (by rw [hw30]; decide) (by rw [hw30]; decide) (by rw [hw30]; decide) (by decide) ?_
      exact k_Law_b164 C0 s0 s1 s2 s3 s4 s5 s6 s7 s8 s9 s10 s11 s12 s14 s15 s16 v3 hk18 hP hD hS hf _ (lv_sub hl [0, 1, 2, 3] rfl)
    · have hf := zif_f hw30 hf
      by_cases hw31 : ((xs (Int32.toNatClampNeg v3)) &&& 31) = 1
      · have hf := zif_t hw31 hf
        refine lv_tableIn (off := 194) (tgt := 227) hx hb dL_law_33 (by rw [hw31]; decide) (by rw [hw31]; decide) (by rw [hw31]; decide) (by decide) ?_
        exact k_Law_b227 C0 s0 s1 s2 s3 s4 s5 s6 s7 s8 s9 s10 s11 s12 s14 s15 s16 v3 hk18 hP hD hS hf _ (lv_sub hl [0, 1, 2, 3] rfl)
      · have hf := zif_f hw31 hf
        by_cases hw32 : ((xs (Int32.toNatClampNeg v3)) &&& 31) = 2
        · have hf := zif_t hw32 hf
          refine lv_tableIn (off := 217) (tgt := 250) hx hb dL_law_33 (by rw [hw32]; decide) (by rw [hw32]; decide) (by rw [hw32]; decide) (by decide) ?_
          exact k_Law_b250 C0 s0 s1 s2 s3 s4 s5 s6 s7 s8 s9 s10 s11 s12 s14 s15 s16 v3 hk18 hP hD hS hf _ (lv_sub hl [0, 1, 2, 3] rfl)
        · have hf := zif_f hw32 hf
          by_cases hw33 : ((xs (Int32.toNatClampNeg v3)) &&& 31) = 3
          · have hf := zif_t hw33 hf
            refine lv_tableIn (off := 230) (tgt := 263) hx hb dL_law_33 (by rw [hw33]; decide) (by rw [hw33]; decide) (by rw [hw33]; decide) (by decide) ?_
            exact k_Law_b263 C0 s0 s1 s2 s3 s4 s5 s6 s7 s8 s9 s10 s11 s12 s14 s15 s16 v3 hk18 hP hD hS hf _ (lv_sub hl [0, 1, 2, 3] rfl)
          · have hf := zif_f hw33 hf
            by_cases hw34 : ((xs (Int32.toNatClampNeg v3)) &&& 31) = 4
            · have hf := zif_t hw34 hf
              refine lv_tableIn (off := 253) (tgt := 286) hx hb dL_law_33 (by rw [hw34]; decide) (by rw [hw34]; decide) (by rw [hw34]; decide) (by decide) ?_
              exact k_Law_b286 C0 s0 s1 s2 s3 s4 s5 s6 s7 s8 s9 s10 s11 s12 s14 s15 s16 v3 hk18 hP hD hS hf _ (lv_sub hl [0, 1, 2, 3] rfl)
            · have hf := zif_f hw34 hf
              by_cases hw35 : ((xs (Int32.toNatClampNeg v3)) &&& 31) = 5
              · have hf := zif_t hw35 hf
                refine lv_tableIn (off := 286) (tgt := 319) hx hb dL_law_33 (by rw [hw35]; decide) (by rw [hw35]; decide) (by rw [hw35]; decide) (by decide) ?_
                exact k_Law_b319 C0 s0 s1 s2 s3 s4 s5 s6 s7 s8 s9 s10 s11 s12 s14 s15 s16 v3 hk18 hP hD hS hf _ (lv_sub hl [0, 1, 2, 3] rfl)
              · have hf := zif_f hw35 hf
                by_cases hw36 : ((xs (Int32.toNatClampNeg v3)) &&& 31) = 6
                · have hf := zif_t hw36 hf
                  refine lv_tableIn (off := 319) (tgt := 352) hx hb dL_law_33 (by rw [hw36]; decide) (by rw [hw36]; decide) (by rw [hw36]; decide) (by decide) ?_
                  exact k_Law_b352 C0 s0 s1 s2 s3 s4 s5 s6 s7 s8 s9 s10 s11 s12 s14 s15 s16 v3 hk18 hP hD hS hf _ (lv_sub hl [0, 1, 2, 3] rfl)
                · have hf := zif_f hw36 hf
                  by_cases hw37 : ((xs (Int32.toNatClampNeg v3)) &&& 31) = 7
                  · have hf := zif_t hw37 hf
                    refine lv_tableIn (off := 342) (tgt := 375) hx hb dL_law_33 (by rw [hw37]; decide) (by rw [hw37]; decide) (by rw [hw37]; decide) (by decide) ?_
                    exact k_Law_b375 C0 s0 s1 s2 s3 s4 s5 s6 s7 s8 s9 s10 s11 s12 s14 s15 s16 v3 hk18 hP hD hS hf _ (lv_sub hl [0, 1, 2, 3] rfl)
                  · have hf := zif_f hw37 hf
                    by_cases hw38 : ((xs (Int32.toNatClampNeg v3)) &&& 31) = 8
                    · have hf := zif_t hw38 hf
                      refine lv_tableIn (off := 391) (tgt := 424) hx hb dL_law_33 (by rw [hw38]; decide) (by rw [hw38]; decide) (by rw [hw38]; decide) (by decide) ?_
                      exact k_Law_b424 C0 s0 s1 s2 s3 s4 s5 s6 s7 s8 s9 s10 s11 s12 s14 s15 s16 v3 hk18 hP hD hS hf _ (lv_sub hl [0, 1, 2, 3] rfl)
                    · have hf := zif_f hw38 hf
                      by_cases hw39 : ((xs (Int32.toNatClampNeg v3)) &&& 31) = 9
                      · have hf := zif_t hw39 hf
                        refine lv_tableIn (off := 440) (tgt := 473) hx hb dL_law_33 (by rw [hw39]; decide) (by rw [hw39]; decide) (by rw [hw39]; decide) (by decide) ?_
                        exact k_Law_b473 C0 s0 s1 s2 s3 s4 s5 s6 s7 s8 s9 s10 s11 s12 s14 s15 s16 v3 hk18 hP hD hS hf _ (lv_sub hl [0, 1, 2, 3] rfl)
                      · have hf := zif_f hw39 hf
                        by_cases hw310 : ((xs (Int32.toNatClampNeg v3)) &&& 31) = 10
                        · have hf := zif_t hw310 hf
                          refine lv_tableIn (off := 473) (tgt := 506) hx hb dL_law_33 (by rw [hw310]; decide) (by rw [hw310]; decide) (by rw [hw310]; decide) (by decide) ?_
                          exact k_Law_b506 C0 s0 s1 s2 s3 s4 s5 s6 s7 s8 s9 s10 s11 s12 s14 s15 s16 v3 hk18 hP hD hS hf _ (lv_sub hl [0, 1, 2, 3] rfl)
                        · have hf := zif_f hw310 hf
                          by_cases hw311 : ((xs (Int32.toNatClampNeg v3)) &&& 31) = 11
                          · have hf := zif_t hw311 hf
                            refine lv_tableIn (off := 506) (tgt := 539) hx hb dL_law_33 (by rw [hw311]; decide) (by rw [hw311]; decide) (by rw [hw311]; decide) (by decide) ?_
                            exact k_Law_b539 C0 s0 s1 s2 s3 s4 s5 s6 s7 s8 s9 s10 s11 s12 s14 s15 s16 v3 hk18 hP hD hS hf _ (lv_sub hl [0, 1, 2, 3] rfl)
                          · have hf := zif_f hw311 hf
                            by_cases hw312 : ((xs (Int32.toNatClampNeg v3)) &&& 31) = 12
                            · have hf := zif_t hw312 hf
                              refine lv_tableIn (off := 529) (tgt := 562) hx hb dL_law_33 (by rw [hw312]; decide) (by rw [hw312]; decide) (by rw [hw312]; decide) (by decide) ?_
                              exact k_Law_b562 C0 s0 s1 s2 s3 s4 s5 s6 s7 s8 s9 s10 s11 s12 s14 s15 s16 v3 hk18 hP hD hS hf _ (lv_sub hl [0, 1, 2, 3] rfl)
                            · have hf := zif_f hw312 hf
                              by_cases hw313 : ((xs (Int32.toNatClampNeg v3)) &&& 31) = 13
                              · have hf := zif_t hw313 hf
                                refine lv_tableIn (off := 592) (tgt := 625) hx hb dL_law_33 (by rw [hw313]; decide) (by rw [hw313]; decide) (by rw [hw313]; decide) (by decide) ?_
                                exact k_Law_b625 C0 s0 s1 s2 s3 s4 s5 s6 s7 s8 s9 s10 s11 s12 s14 s15 s16 v3 hk18 hP hD hS hf _ (lv_sub hl [0, 1, 2, 3] rfl)
                              · have hf := zif_f hw313 hf
                                by_cases hw314 : ((xs (Int32.toNatClampNeg v3)) &&& 31) = 14
                                · have hf := zif_t hw314 hf
                                  refine lv_tableIn (off := 625) (tgt := 658) hx hb dL_law_33 (by rw [hw314]; decide) (by rw [hw314]; decide) (by rw [hw314]; decide) (by decide) ?_
                                  exact k_Law_b658 C0 s0 s1 s2 s3 s4 s5 s6 s7 s8 s9 s10 s11 s12 s14 s15 s16 v3 hk18 hP hD hS hf _ (lv_sub hl [0, 1, 2, 3] rfl)
                                · have hf := zif_f hw314 hf
                                  by_cases hw315 : ((xs (Int32.toNatClampNeg v3)) &&& 31) = 15
                                  · have hf := zif_t hw315 hf
                                    refine lv_tableIn (off := 678) (tgt := 711) hx hb dL_law_33 (by rw [hw315]; decide) (by rw [hw315]; decide) (by rw [hw315]; decide) (by decide) ?_
                                    exact k_Law_b711 C0 s0 s1 s2 s3 s4 s5 s6 s7 s8 s9 s10 s11 s12 s14 s15 s16 v3 hk18 hP hD hS hf _ (lv_sub hl [0, 1, 2, 3] rfl)
                                  · have hf := zif_f hw315 hf
                                    by_cases hw316 : ((xs (Int32.toNatClampNeg v3)) &&& 31) = 16
                                    · have hf := zif_t hw316 hf
                                      refine lv_tableIn (off := 701) (tgt := 734) hx hb dL_law_33 (by rw [hw316]; decide) (by rw [hw316]; decide) (by rw [hw316]; decide) (by decide) ?_
                                      exact k_Law_b734 C0 s0 s1 s2 s3 s4 s5 s6 s7 s8 s9 s10 s11 s12 s14 s15 s16 v3 hk18 hP hD hS hf _ (lv_sub hl [0, 1, 2, 3] rfl)
                                    · have hf := zif_f hw316 hf
                                      by_cases hw317 : ((xs (Int32.toNatClampNeg v3)) &&& 31) = 17
                                      · have hf := zif_t hw317 hf
                                        refine lv_tableIn (off := 724) (tgt := 757) hx hb dL_law_33 (by rw [hw317]; decide) (by rw [hw317]; decide) (by rw [hw317]; decide) (by decide) ?_
                                        exact k_Law_b757 C0 s0 s1 s2 s3 s4 s5 s6 s7 s8 s9 s10 s11 s12 s14 s15 s16 v3 hk18 hP hD hS hf _ (lv_sub hl [0, 1, 2, 3] rfl)
                                      · have hf := zif_f hw317 hf
                                        by_cases hw318 : ((xs (Int32.toNatClampNeg v3)) &&& 31) = 18
                                        · have hf := zif_t hw318 hf
                                          refine lv_tableIn (off := 777) (tgt := 810) hx hb dL_law_33 (by rw [hw318]; decide) (by rw [hw318]; decide) (by rw [hw318]; decide) (by decide) ?_
                                          exact k_Law_b810 C0 s0 s1 s2 s3 s4 s5 s6 s7 s8 s9 s10 s11 s12 s14 s15 s16 v3 hk18 hP hD hS hf _ (lv_sub hl [0, 1, 2, 3] rfl)
                                        · have hf := zif_f hw318 hf
                                          by_cases hw319 : ((xs (Int32.toNatClampNeg v3)) &&& 31) = 19
                                          · have hf := zif_t hw319 hf
                                            refine lv_tableIn (off := 840) (tgt := 873) hx hb dL_law_33 (by rw [hw319]; decide) (by rw [hw319]; decide) (by rw [hw319]; decide) (by decide) ?_
                                            exact k_Law_b873 C0 s0 s1 s2 s3 s4 s5 s6 s7 s8 s9 s10 s11 s12 s14 s15 s16 v3 hk18 hP hD hS hf _ (lv_sub hl [0, 1, 2, 3] rfl)
                                          · have hf := zif_f hw319 hf
                                            by_cases hw320 : ((xs (Int32.toNatClampNeg v3)) &&& 31) = 20
                                            · have hf := zif_t hw320 hf
                                              refine lv_tableIn (off := 883) (tgt := 916) hx hb dL_law_33 (by rw [hw320]; decide) (by rw [hw320]; decide) (by rw [hw320]; decide) (by decide) ?_
                                              exact k_Law_b916 C0 s0 s1 s2 s3 s4 s5 s6 s7 s8 s9 s10 s11 s12 s14 s15 s16 v3 hk18 hP hD hS hf _ (lv_sub hl [0, 1, 2, 3] rfl)
                                            · have hf := zif_f hw320 hf
                                              by_cases hw321 : ((xs (Int32.toNatClampNeg v3)) &&& 31) = 21
                                              · have hf := zif_t hw321 hf
                                                refine lv_tableIn (off := 946) (tgt := 979) hx hb dL_law_33 (by rw [hw321]; decide) (by rw [hw321]; decide) (by rw [hw321]; decide) (by decide) ?_
                                                exact k_Law_b979 C0 s0 s1 s2 s3 s4 s5 s6 s7 s8 s9 s10 s11 s12 s14 s15 s16 v3 hk18 hP hD hS hf _ (lv_sub hl [0, 1, 2, 3] rfl)
                                              · have hf := zif_f hw321 hf
                                                by_cases hw322 : ((xs (Int32.toNatClampNeg v3)) &&& 31) = 22
                                                · have hf := zif_t hw322 hf
                                                  refine lv_tableIn (off := 969) (tgt := 1002) hx hb dL_law_33 (by rw [hw322]; decide) (by rw [hw322]; decide) (by rw [hw322]; decide) (by decide) ?_
                                                  exact k_Law_b1002 C0 s0 s1 s2 s3 s4 s5 s6 s7 s8 s9 s10 s11 s12 s14 s15 s16 v3 hk18 hP hD hS hf _ (lv_sub hl [0, 1, 2, 3] rfl)
                                                · have hf := zif_f hw322 hf
                                                  by_cases hw323 : ((xs (Int32.toNatClampNeg v3)) &&& 31) = 23
                                                  · have hf := zif_t hw323 hf
                                                    refine lv_tableIn (off := 992) (tgt := 1025) hx hb dL_law_33 (by rw [hw323]; decide) (by rw [hw323]; decide) (by rw [hw323]; decide) (by decide) ?_
                                                    exact k_Law_b1025 C0 s0 s1 s2 s3 s4 s5 s6 s7 s8 s9 s10 s11 s12 s14 s15 s16 v3 hk18 hP hD hS hf _ (lv_sub hl [0, 1, 2, 3] rfl)
                                                  · have hf := zif_f hw323 hf
                                                    by_cases hw324 : ((xs (Int32.toNatClampNeg v3)) &&& 31) = 24
                                                    · have hf := zif_t hw324 hf
                                                      refine lv_tableIn (off := 1015) (tgt := 1048) hx hb dL_law_33 (by rw [hw324]; decide) (by rw [hw324]; decide) (by rw [hw324]; decide) (by decide) ?_
                                                      exact k_Law_b1048 C0 s0 s1 s2 s3 s4 s5 s6 s7 s8 s9 s10 s11 s12 s14 s15 s16 v3 hk18 hP hD hS hf _ (lv_sub hl [0, 1, 2, 3] rfl)
                                                    · have hf := zif_f hw324 hf
                                                      by_cases hw325 : ((xs (Int32.toNatClampNeg v3)) &&& 31) = 25
                                                      · have hf := zif_t hw325 hf
                                                        refine lv_tableIn (off := 1038) (tgt := 1071) hx hb dL_law_33 (by rw [hw325]; decide) (by rw [hw325]; decide) (by rw [hw325]; decide) (by decide) ?_
                                                        exact k_Law_b1071 C0 s0 s1 s2 s3 s4 s5 s6 s7 s8 s9 s10 s11 s12 s14 s15 s16 v3 hk18 hP hD hS hf _ (lv_sub hl [0, 1, 2, 3] rfl)
                                                      · have hf := zif_f hw325 hf
                                                        by_cases hw326 : ((xs (Int32.toNatClampNeg v3)) &&& 31) = 26
                                                        · have hf := zif_t hw326 hf
                                                          refine lv_tableIn (off := 1071) (tgt := 1104) hx hb dL_law_33 (by rw [hw326]; decide) (by rw [hw326]; decide) (by rw [hw326]; decide) (by decide) ?_
                                                          exact k_Law_b1104 C0 s0 s1 s2 s3 s4 s5 s6 s7 s8 s9 s10 s11 s12 s14 s15 s16 v3 hk18 hP hD hS hf _ (lv_sub hl [0, 1, 2, 3] rfl)
                                                        · have hf := zif_f hw326 hf
                                                          by_cases hw327 : ((xs (Int32.toNatClampNeg v3)) &&& 31) = 27
                                                          · have hf := zif_t hw327 hf
                                                            refine lv_tableIn (off := 1094) (tgt := 1127) hx hb dL_law_33 (by rw [hw327]; decide) (by rw [hw327]; decide) (by rw [hw327]; decide) (by decide) ?_
                                                            exact k_Law_b1127 C0 s0 s1 s2 s3 s4 s5 s6 s7 s8 s9 s10 s11 s12 s14 s15 s16 v3 hk18 hP hD hS hf _ (lv_sub hl [0, 1, 2, 3] rfl)
                                                          · have hf := zif_f hw327 hf
                                                            by_cases hw328 : ((xs (Int32.toNatClampNeg v3)) &&& 31) = 28
                                                            · have hf := zif_t hw328 hf
                                                              refine lv_tableIn (off := 1117) (tgt := 1150) hx hb dL_law_33 (by rw [hw328]; decide) (by rw [hw328]; decide) (by rw [hw328]; decide) (by decide) ?_
                                                              exact k_Law_b1150 C0 s0 s1 s2 s3 s4 s5 s6 s7 s8 s9 s10 s11 s12 s14 s15 s16 v3 hk18 hP hD hS hf _ (lv_sub hl [0, 1, 2, 3] rfl)
                                                            · have hf := zif_f hw328 hf
                                                              refine lv_tableOut (tgt := 1173) hx hb dL_law_33 (zsw 28 (by decide) (fun k hk => ?_)) (by decide) ?_
                                                              · rcases (show k = 0 ∨ k = 1 ∨ k = 2 ∨ k = 3 ∨ k = 4 ∨ k = 5 ∨ k = 6 ∨ k = 7 ∨ k = 8 ∨ k = 9 ∨ k = 10 ∨ k = 11 ∨ k = 12 ∨ k = 13 ∨ k = 14 ∨ k = 15 ∨ k = 16 ∨ k = 17 ∨ k = 18 ∨ k = 19 ∨ k = 20 ∨ k = 21 ∨ k = 22 ∨ k = 23 ∨ k = 24 ∨ k = 25 ∨ k = 26 ∨ k = 27 ∨ k = 28 by omega) with rfl | rfl | rfl | rfl | rfl | rfl | rfl | rfl | rfl | rfl | rfl | rfl | rfl | rfl | rfl | rfl | rfl | rfl | rfl | rfl | rfl | rfl | rfl | rfl | rfl | rfl | rfl | rfl | rfl
                                                                · exact hw30
                                                                · exact hw31
                                                                · exact hw32
                                                                · exact hw33
                                                                · exact hw34
                                                                · exact hw35
                                                                · exact hw36
                                                                · exact hw37
                                                                · exact hw38
                                                                · exact hw39
                                                                · exact hw310
                                                                · exact hw311
                                                                · exact hw312
                                                                · exact hw313
                                                                · exact hw314
                                                                · exact hw315
                                                                · exact hw316
                                                                · exact hw317
                                                                · exact hw318
                                                                · exact hw319
                                                                · exact hw320
                                                                · exact hw321
                                                                · exact hw322
                                                                · exact hw323
                                                                · exact hw324
                                                                · exact hw325
                                                                · exact hw326
                                                                · exact hw327
                                                                · exact hw328
                                                              · exact k_Law_b1173 C0 s0 s1 s2 s3 s4 s5 s6 s7 s8 s9 s10 s11 s12 s14 s15 s16 v3 hk18 hP hD hS hf _ (lv_sub hl [0, 1, 2, 3] rfl)
set_option maxHeartbeats 4000000 in
set_option maxRecDepth 100000 in
theorem k_Law_h18 {p : Program} {l : Launch} {e : Env} {s : State} {m : MethodId} {below : List Frame} {meth : Method} {c : Code} {dC : Nat → ClassId} {dI : Nat → Nat → Nat} {cy : Nat → ClassId} {b L : Nat} {xs : Nat → Int32} {N : Nat} (C0 : zLx p s m meth c b L xs (dC, dI) cy) : ∀ (n : Nat) {o0 : Nat} {a0 : Nat → Nat} {o1 : Nat} {a1 : Nat → Nat} {a2 : Nat → Nat} {a3 : Nat → Nat} {a4 : Nat → Nat} {a5 : Nat → Nat} {a6 : Nat → Nat} {a7 : Nat → Nat} {a8 : Nat → Nat} {a9 : Nat → Nat} {a10 : Nat → Nat} {a11 : Nat → Nat} {a12 : Nat → Nat} {b13 : Nat → Nat} {a14 : Nat → Nat} {a15 : Nat → Nat} {a16 : Nat → Nat} (s0 s1 s2 s3 s4 s5 s6 s7 s8 s9 s10 s11 s12 s14 s15 s16 : zSt) (v3 : Int32) {H : Heap} {locs : List Loc} (hP : va_P (dC, dI) vwCl (wd_Law cy o0 a0 (zI s0) (zL s0) (zA s0 0) (zA s0 10) o1 a1 (zI s1) (zL s1) (zA s1 0) (zB s1 10) (zA s1 11) (zA s1 12) (zA s1 13) (zA s1 14) (zA s1 15) (zA s1 16) (zA s1 17) (zA s1 18) (zA s1 19) (zA s1 20) (zA s1 21) (zA s1 33) (zA s1 39) (zA s1 40) (zA s1 41) (zA s1 42) (zA s1 43) (zA s1 44) (zA s1 45) (zA s1 46) (zA s1 49) (zA s1 56) (zA s1 57) (zA s1 59) (zA s1 60) (zA s1 62) (zA s1 63) a2 (zI s2) (zL s2) a3 (zI s3) (zL s3) (zB s3 1) (zA s3 2) (zB s3 4) (zA s3 5) (zA s3 6) (zA s3 7) (zA s3 10) (zB s3 13) (zA s3 14) a4 (zI s4) (zL s4) (zA s4 1) (zA s4 2) (zB s4 3) a5 (zI s5) (zL s5) (zA s5 5) a6 (zI s6) (zL s6) (zA s6 1) (zA s6 2) (zA s6 3) (zA s6 4) (zA s6 5) (zA s6 6) (zA s6 7) a7 (zI s7) (zL s7) a8 (zI s8) (zL s8) (zB s8 1) (zA s8 2) (zB s8 4) (zA s8 5) (zA s8 6) (zA s8 7) (zA s8 10) (zB s8 13) (zA s8 14) a9 (zI s9) (zL s9) (zA s9 1) (zA s9 3) (zA s9 4) (zA s9 5) a10 (zI s10) (zL s10) (zA s10 8) (zA s10 9) (zA s10 10) (zA s10 11) (zA s10 12) (zA s10 13) a11 (zI s11) (zL s11) (zA s11 1) (zA s11 3) (zA s11 4) (zA s11 5) (zA s11 6) (zA s11 7) a12 (zI s12) (zL s12) (zA s12 2) b13 a14 (zI s14) (zL s14) (zA s14 5) a15 (zI s15) (zL s15) (zA s15 5) a16 (zI s16) (zL s16) (zA s16 5)) H) (hD : va_D (zLA s) (wd_Law cy o0 a0 (zI s0) (zL s0) (zA s0 0) (zA s0 10) o1 a1 (zI s1) (zL s1) (zA s1 0) (zB s1 10) (zA s1 11) (zA s1 12) (zA s1 13) (zA s1 14) (zA s1 15) (zA s1 16) (zA s1 17) (zA s1 18) (zA s1 19) (zA s1 20) (zA s1 21) (zA s1 33) (zA s1 39) (zA s1 40) (zA s1 41) (zA s1 42) (zA s1 43) (zA s1 44) (zA s1 45) (zA s1 46) (zA s1 49) (zA s1 56) (zA s1 57) (zA s1 59) (zA s1 60) (zA s1 62) (zA s1 63) a2 (zI s2) (zL s2) a3 (zI s3) (zL s3) (zB s3 1) (zA s3 2) (zB s3 4) (zA s3 5) (zA s3 6) (zA s3 7) (zA s3 10) (zB s3 13) (zA s3 14) a4 (zI s4) (zL s4) (zA s4 1) (zA s4 2) (zB s4 3) a5 (zI s5) (zL s5) (zA s5 5) a6 (zI s6) (zL s6) (zA s6 1) (zA s6 2) (zA s6 3) (zA s6 4) (zA s6 5) (zA s6 6) (zA s6 7) a7 (zI s7) (zL s7) a8 (zI s8) (zL s8) (zB s8 1) (zA s8 2) (zB s8 4) (zA s8 5) (zA s8 6) (zA s8 7) (zA s8 10) (zB s8 13) (zA s8 14) a9 (zI s9) (zL s9) (zA s9 1) (zA s9 3) (zA s9 4) (zA s9 5) a10 (zI s10) (zL s10) (zA s10 8) (zA s10 9) (zA s10 10) (zA s10 11) (zA s10 12) (zA s10 13) a11 (zI s11) (zL s11) (zA s11 1) (zA s11 3) (zA s11 4) (zA s11 5) (zA s11 6) (zA s11 7) a12 (zI s12) (zL s12) (zA s12 2) b13 a14 (zI s14) (zL s14) (zA s14 5) a15 (zI s15) (zL s15) (zA s15 5) a16 (zI s16) (zL s16) (zA s16 5))) (hS : va_S (zLA s) s.heap H locs) (hf : Law_h18 N L xs n s0 s1 s2 s3 s4 s5 s6 s7 s8 s9 s10 s11 s12 s14 s15 s16 v3 = some ()) (ls : Array Slot) (hl : lv_has ls 4 [(0, .ref b), (1, .ref o0), (2, .ref o1), (3, .int v3)]), W p l e room_1 s m #[Value.ref b] below meth c H locs 600000 7302250 (lw_Z below #[Value.ref b] s) (F0 m 18 ls []) := by
  intro n
  induction n with
  | zero => intros; rename_i hf _ _; cases hf
  | succ n ih =>
    intro o0 a0 o1 a1 a2 a3 a4 a5 a6 a7 a8 a9 a10 a11 a12 b13 a14 a15 a16 s0 s1 s2 s3 s4 s5 s6 s7 s8 s9 s10 s11 s12 s14 s15 s16 v3 H locs hP hD hS hf ls hl
    have hf : Law_b18 N (Law_h18 N L xs n) L xs s0 s1 s2 s3 s4 s5 s6 s7 s8 s9 s10 s11 s12 s14 s15 s16 v3 = some () := hf
    exact k_Law_b18 C0 s0 s1 s2 s3 s4 s5 s6 s7 s8 s9 s10 s11 s12 s14 s15 s16 v3 ih hP hD hS hf ls hl
