theorem t_Mo_sound (N : Nat) (hN : 50000000 ≤ N) (s0 : zSt) (v1 : Int32) (v2 : Int32) (v3 : Int32) (v4 : Int32) (v5 : Int32) (h_s0 : I_Mo s0) : zok (Mo_sound N s0 v1 v2 v3 v4 v5) (fun z => ((-1 : Int) ≤ (z.1).toInt ∧ (z.1).toInt ≤ 39) ∧ I_Mo z.2 ∧ Fr [47] [39, 40, 41, 42, 43, 44, 45, 46] z.2 s0) :=
  t_Mo_sound_b0 N hN s0 v1 v2 v3 v4 v5 s0 h_s0 ⟨fun _ _ => rfl, fun _ _ => rfl⟩
theorem t_Mo_evening_b0 (N : Nat) (hN : 50000000 ≤ N) (s0 : zSt) (v1 : Int32) (v2 : Int32) (gs0 : zSt) (h_s0 : I_Mo s0) (g_s0 : Fr [47] [39, 40, 41, 42, 43, 44, 45, 46] s0 gs0) : zok (Mo_evening_b0 N s0 v1 v2) (fun z => ((-1 : Int) ≤ (z.1).toInt ∧ (z.1).toInt ≤ 39) ∧ I_Mo z.2 ∧ Fr [47] [39, 40, 41, 42, 43, 44, 45, 46] z.2 gs0) := by
  rw [Mo_evening_b0]
  have q1 := li_0
  have q2 := li_20
  rcases u_Mo_isIn N v1 (0 : Int32) (20 : Int32)  with w3 | ⟨w3, w3_0, w3_1⟩ <;> rw [w3, zbs]
  · refine zok_t (by decide) ?_
    have q7 := li_m1
    exact zok_some ⟨(show (-1 : Int) ≤ (((-1) : Int32)).toInt ∧ (((-1) : Int32)).toInt ≤ 39 from ⟨by omega, by omega⟩), h_s0, g_s0⟩
  · have q4 := tr v1
    have q5 : ((0 : Int32)).toInt ≤ (v1).toInt := w3_0
    have q6 : (v1).toInt ≤ ((20 : Int32)).toInt := w3_1
    refine zok_f (by decide) ?_
    have q8 := li_4095
    rcases u_Mo_isIn N v2 (0 : Int32) (4095 : Int32)  with w9 | ⟨w9, w9_0, w9_1⟩ <;> rw [w9, zbs]
    · refine zok_t (by decide) ?_
      have q13 := li_m1
      exact zok_some ⟨(show (-1 : Int) ≤ (((-1) : Int32)).toInt ∧ (((-1) : Int32)).toInt ≤ 39 from ⟨by omega, by omega⟩), h_s0, g_s0⟩
    · have q10 := tr v2
      have q11 : ((0 : Int32)).toInt ≤ (v2).toInt := w9_0
      have q12 : (v2).toInt ≤ ((4095 : Int32)).toInt := w9_1
      refine zok_f (by decide) ?_
      have q14 := li_1
      refine zok_bind (t_Mo_entry N hN s0 (1 : Int32) v1 (0 : Int32) v2 (0 : Int32) (0 : Int32) h_s0 (show (0 : Int) ≤ ((1 : Int32)).toInt ∧ ((1 : Int32)).toInt ≤ 1 from ⟨by omega, by omega⟩) (show (0 : Int) ≤ (v1).toInt ∧ (v1).toInt ≤ 95 from ⟨by omega, by omega⟩) (show (0 : Int) ≤ ((0 : Int32)).toInt ∧ ((0 : Int32)).toInt ≤ 3 from ⟨by omega, by omega⟩) (show (0 : Int) ≤ (v2).toInt ∧ (v2).toInt ≤ 4095 from ⟨by omega, by omega⟩) (show (-99 : Int) ≤ ((0 : Int32)).toInt ∧ ((0 : Int32)).toInt ≤ 2147483647 from ⟨by omega, by omega⟩)) (fun z7 hz7 => ?_)
      obtain ⟨h_z7_1, h_z7_2, fr_z7_2⟩ := hz7
      exact zok_some ⟨(show (-1 : Int) ≤ (z7.1).toInt ∧ (z7.1).toInt ≤ 39 from ⟨by omega, by omega⟩), h_z7_2, (Fr.tr fr_z7_2 g_s0 rfl rfl)⟩
theorem t_Mo_evening (N : Nat) (hN : 50000000 ≤ N) (s0 : zSt) (v1 : Int32) (v2 : Int32) (h_s0 : I_Mo s0) : zok (Mo_evening N s0 v1 v2) (fun z => ((-1 : Int) ≤ (z.1).toInt ∧ (z.1).toInt ≤ 39) ∧ I_Mo z.2 ∧ Fr [47] [39, 40, 41, 42, 43, 44, 45, 46] z.2 s0) :=
  t_Mo_evening_b0 N hN s0 v1 v2 s0 h_s0 ⟨fun _ _ => rfl, fun _ _ => rfl⟩
theorem t_Mo_note_b64 (N : Nat) (hN : 50000000 ≤ N) (s0 : zSt) (v4 : Int32) (v5 : Int32) (t1 : Int32) (t2 : Int32) (t3 : Int32) (t4 : Int32) (t5 : Int32) (gs0 : zSt) (h_s0 : I_Mo s0) (h_v4 : (0 : Int) ≤ (v4).toInt ∧ (v4).toInt ≤ 99) (h_t1 : (0 : Int) ≤ (t1).toInt ∧ (t1).toInt ≤ 0) (h_t2 : (0 : Int) ≤ (t2).toInt ∧ (t2).toInt ≤ 95) (h_t3 : (0 : Int) ≤ (t3).toInt ∧ (t3).toInt ≤ 3) (h_t4 : (0 : Int) ≤ (t4).toInt ∧ (t4).toInt ≤ 11) (h_t5 : (-99 : Int) ≤ (t5).toInt ∧ (t5).toInt ≤ 2147483647) (g_s0 : Fr [47] [39, 40, 41, 42, 43, 44, 45, 46] s0 gs0) : zok (Mo_note_b64 N s0 v4 v5 t1 t2 t3 t4 t5) (fun z => ((-1 : Int) ≤ (z.1).toInt ∧ (z.1).toInt ≤ 39) ∧ I_Mo z.2 ∧ Fr [47] [39, 40, 41, 42, 43, 44, 45, 46] z.2 gs0) := by
  rw [Mo_note_b64]
  refine zok_bind (t_Mo_entry N hN s0 t1 t2 t3 t4 t5 (v5 + v4) h_s0 (show (0 : Int) ≤ (t1).toInt ∧ (t1).toInt ≤ 1 from ⟨by omega, by omega⟩) (show (0 : Int) ≤ (t2).toInt ∧ (t2).toInt ≤ 95 from ⟨by omega, by omega⟩) (show (0 : Int) ≤ (t3).toInt ∧ (t3).toInt ≤ 3 from ⟨by omega, by omega⟩) (show (0 : Int) ≤ (t4).toInt ∧ (t4).toInt ≤ 4095 from ⟨by omega, by omega⟩) (show (-99 : Int) ≤ (t5).toInt ∧ (t5).toInt ≤ 2147483647 from ⟨by omega, by omega⟩)) (fun z1 hz1 => ?_)
  obtain ⟨h_z1_1, h_z1_2, fr_z1_2⟩ := hz1
  exact zok_some ⟨(show (-1 : Int) ≤ (z1.1).toInt ∧ (z1.1).toInt ≤ 39 from ⟨by omega, by omega⟩), (IS.mg [16,17,19,33] h_z1_2 h_s0), (Fr.mg (Fr.tr fr_z1_2 g_s0 rfl rfl) g_s0)⟩
theorem t_Mo_note_b0 (N : Nat) (hN : 50000000 ≤ N) (s0 : zSt) (v1 : Int32) (v2 : Int32) (v3 : Int32) (v4 : Int32) (gs0 : zSt) (h_s0 : I_Mo s0) (g_s0 : Fr [47] [39, 40, 41, 42, 43, 44, 45, 46] s0 gs0) : zok (Mo_note_b0 N s0 v1 v2 v3 v4) (fun z => ((-1 : Int) ≤ (z.1).toInt ∧ (z.1).toInt ≤ 39) ∧ I_Mo z.2 ∧ Fr [47] [39, 40, 41, 42, 43, 44, 45, 46] z.2 gs0) := by
  rw [Mo_note_b0]
  rcases u_Mo_isQuarter N v1  with w1 | ⟨w1, w1_0, w1_1⟩ <;> rw [w1, zbs]
  · refine zok_t (by decide) ?_
    have q7 := li_m1
    exact zok_some ⟨(show (-1 : Int) ≤ (((-1) : Int32)).toInt ∧ (((-1) : Int32)).toInt ≤ 39 from ⟨by omega, by omega⟩), h_s0, g_s0⟩
  · have q2 := li_0
    have q3 := tr v1
    have q4 : ((0 : Int32)).toInt ≤ (v1).toInt := w1_0
    have q5 := li_95
    have q6 : (v1).toInt ≤ ((95 : Int32)).toInt := w1_1
    refine zok_f (by decide) ?_
    rcases u_Mo_isEar N s0 v2  with w8 | ⟨w8, w8_0, w8_1⟩ <;> rw [w8, zbs]
    · refine zok_t (by decide) ?_
      have q15 := li_m1
      exact zok_some ⟨(show (-1 : Int) ≤ (((-1) : Int32)).toInt ∧ (((-1) : Int32)).toInt ≤ 39 from ⟨by omega, by omega⟩), h_s0, g_s0⟩
    · have q9 := tr v2
      have q10 : ((0 : Int32)).toInt ≤ (v2).toInt := w8_0
      have q11 : (0 : Int) ≤ ((zI s0 32)).toInt ∧ ((zI s0 32)).toInt ≤ 4 := (h_s0).1 32
      have q12 := li_1
      have q13 := tsub (zI s0 32) (1 : Int32) (by omega) (by omega)
      have q14 : (v2).toInt ≤ (((zI s0 32) - (1 : Int32))).toInt := w8_1
      refine zok_f (by decide) ?_
      rcases u_Mo_isTone N v3  with w16 | ⟨w16, w16_0, w16_1⟩ <;> rw [w16, zbs]
      · refine zok_t (by decide) ?_
        have q21 := li_m1
        exact zok_some ⟨(show (-1 : Int) ≤ (((-1) : Int32)).toInt ∧ (((-1) : Int32)).toInt ≤ 39 from ⟨by omega, by omega⟩), h_s0, g_s0⟩
      · have q17 := tr v3
        have q18 : ((0 : Int32)).toInt ≤ (v3).toInt := w16_0
        have q19 := li_11
        have q20 : (v3).toInt ≤ ((11 : Int32)).toInt := w16_1
        refine zok_f (by decide) ?_
        have q22 := li_99
        rcases u_Mo_isIn N v4 (0 : Int32) (99 : Int32)  with w23 | ⟨w23, w23_0, w23_1⟩ <;> rw [w23, zbs]
        · refine zok_t (by decide) ?_
          have q27 := li_m1
          exact zok_some ⟨(show (-1 : Int) ≤ (((-1) : Int32)).toInt ∧ (((-1) : Int32)).toInt ≤ 39 from ⟨by omega, by omega⟩), h_s0, g_s0⟩
        · have q24 := tr v4
          have q25 : ((0 : Int32)).toInt ≤ (v4).toInt := w23_0
          have q26 : (v4).toInt ≤ ((99 : Int32)).toInt := w23_1
          refine zok_f (by decide) ?_
          refine zok_bind (t_Mo_heard N hN s0 v2 v3 h_s0 (show (0 : Int) ≤ (v2).toInt ∧ (v2).toInt ≤ 3 from ⟨by omega, by omega⟩) (show (0 : Int) ≤ (v3).toInt ∧ (v3).toInt ≤ 11 from ⟨by omega, by omega⟩)) (fun z13 hz13 => ?_)
          have h_z13 := hz13
          have q29 := tr z13
          refine zok_ite (fun c28 => ?_) (fun c28 => ?_)
          · have q30 : (v4).toInt ≤ (z13).toInt := tle c28
            have q31 := tsub z13 v4 (by omega) (by omega)
            exact t_Mo_note_b64 N hN  _ _ _ _ _ _ _ _ gs0  h_s0 (show (0 : Int) ≤ (v4).toInt ∧ (v4).toInt ≤ 99 from ⟨by omega, by omega⟩) (show (0 : Int) ≤ ((0 : Int32)).toInt ∧ ((0 : Int32)).toInt ≤ 0 from ⟨by omega, by omega⟩) (show (0 : Int) ≤ (v1).toInt ∧ (v1).toInt ≤ 95 from ⟨by omega, by omega⟩) (show (0 : Int) ≤ (v2).toInt ∧ (v2).toInt ≤ 3 from ⟨by omega, by omega⟩) (show (0 : Int) ≤ (v3).toInt ∧ (v3).toInt ≤ 11 from ⟨by omega, by omega⟩) (show (-99 : Int) ≤ ((z13 - v4)).toInt ∧ ((z13 - v4)).toInt ≤ 2147483647 from ⟨by omega, by omega⟩) g_s0 
          · have q32 : (v4).toInt > (z13).toInt := tnle c28
            exact t_Mo_note_b64 N hN  _ _ _ _ _ _ _ _ gs0  h_s0 (show (0 : Int) ≤ (v4).toInt ∧ (v4).toInt ≤ 99 from ⟨by omega, by omega⟩) (show (0 : Int) ≤ ((0 : Int32)).toInt ∧ ((0 : Int32)).toInt ≤ 0 from ⟨by omega, by omega⟩) (show (0 : Int) ≤ (v1).toInt ∧ (v1).toInt ≤ 95 from ⟨by omega, by omega⟩) (show (0 : Int) ≤ (v2).toInt ∧ (v2).toInt ≤ 3 from ⟨by omega, by omega⟩) (show (0 : Int) ≤ (v3).toInt ∧ (v3).toInt ≤ 11 from ⟨by omega, by omega⟩) (show (-99 : Int) ≤ ((0 : Int32)).toInt ∧ ((0 : Int32)).toInt ≤ 2147483647 from ⟨by omega, by omega⟩) g_s0 
theorem t_Mo_note (N : Nat) (hN : 50000000 ≤ N) (s0 : zSt) (v1 : Int32) (v2 : Int32) (v3 : Int32) (v4 : Int32) (h_s0 : I_Mo s0) : zok (Mo_note N s0 v1 v2 v3 v4) (fun z => ((-1 : Int) ≤ (z.1).toInt ∧ (z.1).toInt ≤ 39) ∧ I_Mo z.2 ∧ Fr [47] [39, 40, 41, 42, 43, 44, 45, 46] z.2 s0) :=
  t_Mo_note_b0 N hN s0 v1 v2 v3 v4 s0 h_s0 ⟨fun _ _ => rfl, fun _ _ => rfl⟩
theorem t_Mo_untell_b0 (N : Nat) (hN : 50000000 ≤ N) (s0 : zSt) (v1 : Int32) (gs0 : zSt) (h_s0 : I_Mo s0) (g_s0 : Fr [] [46] s0 gs0) : zok (Mo_untell_b0 N s0 v1) (fun z => ((0 : Int) ≤ (z.1).toInt ∧ (z.1).toInt ≤ 1) ∧ I_Mo z.2 ∧ Fr [] [46] z.2 gs0) := by
  rw [Mo_untell_b0]
  have q1 := li_0
  have q2 : (0 : Int) ≤ ((zI s0 47)).toInt ∧ ((zI s0 47)).toInt ≤ 40 := (h_s0).1 47
  have q3 := li_1
  have q4 := tsub (zI s0 47) (1 : Int32) (by omega) (by omega)
  rcases u_Mo_isIn N v1 (0 : Int32) ((zI s0 47) - (1 : Int32))  with w5 | ⟨w5, w5_0, w5_1⟩ <;> rw [w5, zbs]
  · refine zok_t (by decide) ?_
    exact zok_some ⟨(show (0 : Int) ≤ ((0 : Int32)).toInt ∧ ((0 : Int32)).toInt ≤ 1 from ⟨by omega, by omega⟩), h_s0, g_s0⟩
  · have q6 := tr v1
    have q7 : ((0 : Int32)).toInt ≤ (v1).toInt := w5_0
    have q8 : (v1).toInt ≤ (((zI s0 47) - (1 : Int32))).toInt := w5_1
    refine zok_f (by decide) ?_
    refine zok_ck (show vp_in v1 40 from vin (by omega) (by omega)) ?_
    have q10 := tr ((zA s0 46) (Int32.toNatClampNeg v1))
    refine zok_ite (fun c9 => ?_) (fun c9 => ?_)
    · have q11 : (((zA s0 46) (Int32.toNatClampNeg v1))).toInt < ((0 : Int32)).toInt := tlt c9
      refine zok_ck (show vp_in v1 40 from vin (by omega) (by omega)) ?_
      exact zok_some ⟨(show (0 : Int) ≤ ((1 : Int32)).toInt ∧ ((1 : Int32)).toInt ≤ 1 from ⟨by omega, by omega⟩), (IS.sA 46 (upd (zA s0 46) (Int32.toNatClampNeg v1) (zI s0 48)) h_s0 (fun _ => tr _)), (Fr.sA g_s0 rfl)⟩
    · have q12 : (((zA s0 46) (Int32.toNatClampNeg v1))).toInt ≥ ((0 : Int32)).toInt := tnlt c9
      exact zok_some ⟨(show (0 : Int) ≤ ((0 : Int32)).toInt ∧ ((0 : Int32)).toInt ≤ 1 from ⟨by omega, by omega⟩), h_s0, g_s0⟩
theorem t_Mo_untell (N : Nat) (hN : 50000000 ≤ N) (s0 : zSt) (v1 : Int32) (h_s0 : I_Mo s0) : zok (Mo_untell N s0 v1) (fun z => ((0 : Int) ≤ (z.1).toInt ∧ (z.1).toInt ≤ 1) ∧ I_Mo z.2 ∧ Fr [] [46] z.2 s0) :=
  t_Mo_untell_b0 N hN s0 v1 s0 h_s0 ⟨fun _ _ => rfl, fun _ _ => rfl⟩
theorem t_Mo_later_b0 (N : Nat) (hN : 50000000 ≤ N) (s0 : zSt) (v1 : Int32) (gs0 : zSt) (h_s0 : I_Mo s0) (g_s0 : Fr [48] [] s0 gs0) : zok (Mo_later_b0 N s0 v1) (fun z => ((-1 : Int) ≤ (z.1).toInt ∧ (z.1).toInt ≤ 100000) ∧ I_Mo z.2 ∧ Fr [48] [] z.2 gs0) := by
  rw [Mo_later_b0]
  have q2 := tr v1
  have q3 := li_0
  refine zok_ite (fun c1 => ?_) (fun c1 => ?_)
  · have q4 : (v1).toInt < ((0 : Int32)).toInt := tlt c1
    have q5 := li_m1
    exact zok_some ⟨(show (-1 : Int) ≤ (((-1) : Int32)).toInt ∧ (((-1) : Int32)).toInt ≤ 100000 from ⟨by omega, by omega⟩), h_s0, g_s0⟩
  · have q6 : (v1).toInt ≥ ((0 : Int32)).toInt := tnlt c1
    have q8 := li_1000
    refine zok_ite (fun c7 => ?_) (fun c7 => ?_)
    · have q9 : ((1000 : Int32)).toInt < (v1).toInt := tlt c7
      have q10 := li_m1
      exact zok_some ⟨(show (-1 : Int) ≤ (((-1) : Int32)).toInt ∧ (((-1) : Int32)).toInt ≤ 100000 from ⟨by omega, by omega⟩), h_s0, g_s0⟩
    · have q11 : ((1000 : Int32)).toInt ≥ (v1).toInt := tnlt c7
      have q13 : (0 : Int) ≤ ((zI s0 48)).toInt ∧ ((zI s0 48)).toInt ≤ 100000 := (h_s0).1 48
      have q14 := tadd (zI s0 48) v1 (by omega) (by omega)
      have q15 := li_100000
      refine zok_ite (fun c12 => ?_) (fun c12 => ?_)
      · have q16 : (((zI s0 48) + v1)).toInt ≤ ((100000 : Int32)).toInt := tle c12
        exact zok_some ⟨(show (-1 : Int) ≤ (((zI s0 48) + v1)).toInt ∧ (((zI s0 48) + v1)).toInt ≤ 100000 from ⟨by omega, by omega⟩), (IS.pI 48 ((zI s0 48) + v1) h_s0 (show (0 : Int) ≤ (((zI s0 48) + v1)).toInt ∧ (((zI s0 48) + v1)).toInt ≤ 100000 from ⟨by omega, by omega⟩)), (Fr.pI g_s0 rfl)⟩
      · have q17 : (((zI s0 48) + v1)).toInt > ((100000 : Int32)).toInt := tnle c12
        have q18 := li_m1
        exact zok_some ⟨(show (-1 : Int) ≤ (((-1) : Int32)).toInt ∧ (((-1) : Int32)).toInt ≤ 100000 from ⟨by omega, by omega⟩), h_s0, g_s0⟩
theorem t_Mo_later (N : Nat) (hN : 50000000 ≤ N) (s0 : zSt) (v1 : Int32) (h_s0 : I_Mo s0) : zok (Mo_later N s0 v1) (fun z => ((-1 : Int) ≤ (z.1).toInt ∧ (z.1).toInt ≤ 100000) ∧ I_Mo z.2 ∧ Fr [48] [] z.2 s0) :=
  t_Mo_later_b0 N hN s0 v1 s0 h_s0 ⟨fun _ _ => rfl, fun _ _ => rfl⟩
theorem t_Mo_counts_b39 (N : Nat) (hN : 50000000 ≤ N) (s0 : zSt) (h_s0 : I_Mo s0) : zok (Mo_counts_b39 N s0) (fun z => ((0 : Int) ≤ (z).toInt ∧ (z).toInt ≤ 1)) := by
  rw [Mo_counts_b39]
  have q1 := li_1
  exact zok_some (show (0 : Int) ≤ ((1 : Int32)).toInt ∧ ((1 : Int32)).toInt ≤ 1 from ⟨by omega, by omega⟩)
theorem t_Mo_counts_b0 (N : Nat) (hN : 50000000 ≤ N) (s0 : zSt) (v1 : Int32) (v2 : Int32) (v3 : Int32) (h_s0 : I_Mo s0) (h_v1 : (0 : Int) ≤ (v1).toInt ∧ (v1).toInt ≤ 39) (h_v2 : (0 : Int) ≤ (v2).toInt ∧ (v2).toInt ≤ 1) : zok (Mo_counts_b0 N s0 v1 v2 v3) (fun z => ((0 : Int) ≤ (z).toInt ∧ (z).toInt ≤ 1)) := by
  rw [Mo_counts_b0]
  refine zok_ck (show vp_in v1 40 from vin (by omega) (by omega)) ?_
  have q2 := tr ((zA s0 39) (Int32.toNatClampNeg v1))
  refine zok_ite (fun c1 => ?_) (fun c1 => ?_)
  · have q3 : (((zA s0 39) (Int32.toNatClampNeg v1))).toInt = (v2).toInt := teq c1
    refine zok_ck (show vp_in v1 40 from vin (by omega) (by omega)) ?_
    have q5 := tr v3
    have q6 := tr ((zA s0 45) (Int32.toNatClampNeg v1))
    refine zok_ite (fun c4 => ?_) (fun c4 => ?_)
    · have q7 : (v3).toInt < (((zA s0 45) (Int32.toNatClampNeg v1))).toInt := tlt c4
      have q8 := li_0
      exact zok_some (show (0 : Int) ≤ ((0 : Int32)).toInt ∧ ((0 : Int32)).toInt ≤ 1 from ⟨by omega, by omega⟩)
    · have q9 : (v3).toInt ≥ (((zA s0 45) (Int32.toNatClampNeg v1))).toInt := tnlt c4
      refine zok_ck (show vp_in v1 40 from vin (by omega) (by omega)) ?_
      have q11 := tr ((zA s0 46) (Int32.toNatClampNeg v1))
      have q12 := li_0
      refine zok_ite (fun c10 => ?_) (fun c10 => ?_)
      · have q13 : (((zA s0 46) (Int32.toNatClampNeg v1))).toInt < ((0 : Int32)).toInt := tlt c10
        exact t_Mo_counts_b39 N hN  _   h_s0 
      · have q14 : (((zA s0 46) (Int32.toNatClampNeg v1))).toInt ≥ ((0 : Int32)).toInt := tnlt c10
        refine zok_ck (show vp_in v1 40 from vin (by omega) (by omega)) ?_
        refine zok_ite (fun c15 => ?_) (fun c15 => ?_)
        · have q16 : (((zA s0 46) (Int32.toNatClampNeg v1))).toInt ≤ (v3).toInt := tle c15
          exact zok_some (show (0 : Int) ≤ ((0 : Int32)).toInt ∧ ((0 : Int32)).toInt ≤ 1 from ⟨by omega, by omega⟩)
        · have q17 : (((zA s0 46) (Int32.toNatClampNeg v1))).toInt > (v3).toInt := tnle c15
          exact t_Mo_counts_b39 N hN  _   h_s0 
  · have q18 : (((zA s0 39) (Int32.toNatClampNeg v1))).toInt ≠ (v2).toInt := tneq c1
    have q19 := li_0
    exact zok_some (show (0 : Int) ≤ ((0 : Int32)).toInt ∧ ((0 : Int32)).toInt ≤ 1 from ⟨by omega, by omega⟩)
theorem t_Mo_counts (N : Nat) (hN : 50000000 ≤ N) (s0 : zSt) (v1 : Int32) (v2 : Int32) (v3 : Int32) (h_s0 : I_Mo s0) (h_v1 : (0 : Int) ≤ (v1).toInt ∧ (v1).toInt ≤ 39) (h_v2 : (0 : Int) ≤ (v2).toInt ∧ (v2).toInt ≤ 1) : zok (Mo_counts N s0 v1 v2 v3) (fun z => ((0 : Int) ≤ (z).toInt ∧ (z).toInt ≤ 1)) :=
  t_Mo_counts_b0 N hN s0 v1 v2 v3  h_s0 h_v1 h_v2 
theorem t_Mo_loudOfSet_b53 (N : Nat) (hN : 50000000 ≤ N) (kh6 : Int32 → Int32 → Option (Int32)) (m6 : Int) (s0 : zSt) (v1 : Int32) (v2 : Int32) (v3 : Int32) (v4 : Int32) (v5 : Int32) (v7 : Int32) (t0 : Int32) (t1 : Int32) (hkh6 : ∀ (v6 : Int32) (v7 : Int32), (0 : Int) ≤ (v7).toInt ∧ (v7).toInt ≤ 11 → 12 - (v7).toInt ≤ m6 - 1 → zok (kh6 v6 v7) (fun z => True)) (h_s0 : I_Mo s0) (h_s0_29 : (1 : Int) ≤ (zI s0 29).toInt ∧ (zI s0 29).toInt ≤ 11) (h_s0_47 : (1 : Int) ≤ (zI s0 47).toInt ∧ (zI s0 47).toInt ≤ 40) (h_v1 : (0 : Int) ≤ (v1).toInt ∧ (v1).toInt ≤ 2047) (h_v3 : (0 : Int) ≤ (v3).toInt ∧ (v3).toInt ≤ 3) (h_v5 : (0 : Int) ≤ (v5).toInt ∧ (v5).toInt ≤ 20) (h_v7 : (0 : Int) ≤ (v7).toInt ∧ (v7).toInt ≤ 10) (h_t1 : (0 : Int) ≤ (t1).toInt ∧ (t1).toInt ≤ 2147483647) (hm6 : 12 - (v7).toInt ≤ m6) : zok (Mo_loudOfSet_b53 N kh6 s0 v1 v2 v3 v4 v5 v7 t0 t1) (fun z => True) := by
  rw [Mo_loudOfSet_b53]
  have q1 := li_1
  have q2 := tadd v7 (1 : Int32) (by omega) (by omega)
  exact hkh6 _ _ (show (0 : Int) ≤ ((v7 + (1 : Int32))).toInt ∧ ((v7 + (1 : Int32))).toInt ≤ 11 from ⟨by omega, by omega⟩) (show 12 - ((v7 + (1 : Int32))).toInt ≤ m6 - 1 by omega)
theorem t_Mo_loudOfSet_b52 (N : Nat) (hN : 50000000 ≤ N) (kh6 : Int32 → Int32 → Option (Int32)) (m6 : Int) (s0 : zSt) (v1 : Int32) (v2 : Int32) (v3 : Int32) (v4 : Int32) (v5 : Int32) (v7 : Int32) (t0 : Int32) (hkh6 : ∀ (v6 : Int32) (v7 : Int32), (0 : Int) ≤ (v7).toInt ∧ (v7).toInt ≤ 11 → 12 - (v7).toInt ≤ m6 - 1 → zok (kh6 v6 v7) (fun z => True)) (h_s0 : I_Mo s0) (h_s0_29 : (1 : Int) ≤ (zI s0 29).toInt ∧ (zI s0 29).toInt ≤ 11) (h_s0_47 : (1 : Int) ≤ (zI s0 47).toInt ∧ (zI s0 47).toInt ≤ 40) (h_v1 : (0 : Int) ≤ (v1).toInt ∧ (v1).toInt ≤ 2047) (h_v3 : (0 : Int) ≤ (v3).toInt ∧ (v3).toInt ≤ 3) (h_v5 : (0 : Int) ≤ (v5).toInt ∧ (v5).toInt ≤ 20) (h_v7 : (0 : Int) ≤ (v7).toInt ∧ (v7).toInt ≤ 10) (hm6 : 12 - (v7).toInt ≤ m6) : zok (Mo_loudOfSet_b52 N kh6 s0 v1 v2 v3 v4 v5 v7 t0) (fun z => True) := by
  rw [Mo_loudOfSet_b52]
  have q1 : (0 : Int) ≤ ((zI s0 29)).toInt ∧ ((zI s0 29)).toInt ≤ 11 := (h_s0).1 29
  have q2 : (0 : Int) ≤ ((zI s0 47)).toInt ∧ ((zI s0 47)).toInt ≤ 40 := (h_s0).1 47
  have q3 := li_0
  exact t_Mo_loudOfSet_b53 N hN kh6 m6 _ _ _ _ _ _ _ _ _  hkh6 h_s0 (show (1 : Int) ≤ ((zI s0 29)).toInt ∧ ((zI s0 29)).toInt ≤ 11 from ⟨by omega, by omega⟩) (show (1 : Int) ≤ ((zI s0 47)).toInt ∧ ((zI s0 47)).toInt ≤ 40 from ⟨by omega, by omega⟩) (show (0 : Int) ≤ (v1).toInt ∧ (v1).toInt ≤ 2047 from ⟨by omega, by omega⟩) (show (0 : Int) ≤ (v3).toInt ∧ (v3).toInt ≤ 3 from ⟨by omega, by omega⟩) (show (0 : Int) ≤ (v5).toInt ∧ (v5).toInt ≤ 20 from ⟨by omega, by omega⟩) (show (0 : Int) ≤ (v7).toInt ∧ (v7).toInt ≤ 10 from ⟨by omega, by omega⟩) (show (0 : Int) ≤ ((0 : Int32)).toInt ∧ ((0 : Int32)).toInt ≤ 2147483647 from ⟨by omega, by omega⟩) (show 12 - (v7).toInt ≤ m6 from by omega)
theorem t_Mo_loudOfSet_b6 (N : Nat) (hN : 50000000 ≤ N) (kh6 : Int32 → Int32 → Option (Int32)) (m6 : Int) (s0 : zSt) (v1 : Int32) (v2 : Int32) (v3 : Int32) (v4 : Int32) (v5 : Int32) (v6 : Int32) (v7 : Int32) (hkh6 : ∀ (v6 : Int32) (v7 : Int32), (0 : Int) ≤ (v7).toInt ∧ (v7).toInt ≤ 11 → 12 - (v7).toInt ≤ m6 - 1 → zok (kh6 v6 v7) (fun z => True)) (h_s0 : I_Mo s0) (h_s0_47 : (1 : Int) ≤ (zI s0 47).toInt ∧ (zI s0 47).toInt ≤ 40) (h_v1 : (0 : Int) ≤ (v1).toInt ∧ (v1).toInt ≤ 2047) (h_v3 : (0 : Int) ≤ (v3).toInt ∧ (v3).toInt ≤ 3) (h_v5 : (0 : Int) ≤ (v5).toInt ∧ (v5).toInt ≤ 20) (h_v7 : (0 : Int) ≤ (v7).toInt ∧ (v7).toInt ≤ 11) (hm6 : 12 - (v7).toInt ≤ m6) : zok (Mo_loudOfSet_b6 N kh6 s0 v1 v2 v3 v4 v5 v6 v7) (fun z => True) := by
  rw [Mo_loudOfSet_b6]
  have q2 : (0 : Int) ≤ ((zI s0 29)).toInt ∧ ((zI s0 29)).toInt ≤ 11 := (h_s0).1 29
  refine zok_ite (fun c1 => ?_) (fun c1 => ?_)
  · have q3 : ((zI s0 29)).toInt ≤ (v7).toInt := tle c1
    exact zok_some trivial
  · have q4 : ((zI s0 29)).toInt > (v7).toInt := tnle c1
    refine zok_ite (fun c5 => ?_) (fun c5 => ?_)
    · refine zok_ck (show vp_in v7 11 from vin (by omega) (by omega)) ?_
      have q7 := tr ((zA s0 16) (Int32.toNatClampNeg v7))
      have q8 := tr v2
      refine zok_ite (fun c6 => ?_) (fun c6 => ?_)
      · have q9 : (((zA s0 16) (Int32.toNatClampNeg v7))).toInt = (v2).toInt := teq c6
        refine zok_bind (t_Mo_loudAt N hN s0 v7 v3 v4 v5 h_s0 (show (1 : Int) ≤ ((zI s0 29)).toInt ∧ ((zI s0 29)).toInt ≤ 11 from ⟨by omega, by omega⟩) (show (0 : Int) ≤ (v7).toInt ∧ (v7).toInt ≤ 10 from ⟨by omega, by omega⟩) (show (0 : Int) ≤ (v3).toInt ∧ (v3).toInt ≤ 3 from ⟨by omega, by omega⟩)) (fun z5 hz5 => ?_)
        have h_z5 := hz5
        have q10 : (0 : Int) ≤ ((zI s0 47)).toInt ∧ ((zI s0 47)).toInt ≤ 40 := (h_s0).1 47
        exact t_Mo_loudOfSet_b53 N hN kh6 m6 _ _ _ _ _ _ _ _ _  hkh6 h_s0 (show (1 : Int) ≤ ((zI s0 29)).toInt ∧ ((zI s0 29)).toInt ≤ 11 from ⟨by omega, by omega⟩) (show (1 : Int) ≤ ((zI s0 47)).toInt ∧ ((zI s0 47)).toInt ≤ 40 from ⟨by omega, by omega⟩) (show (0 : Int) ≤ (v1).toInt ∧ (v1).toInt ≤ 2047 from ⟨by omega, by omega⟩) (show (0 : Int) ≤ (v3).toInt ∧ (v3).toInt ≤ 3 from ⟨by omega, by omega⟩) (show (0 : Int) ≤ (v5).toInt ∧ (v5).toInt ≤ 20 from ⟨by omega, by omega⟩) (show (0 : Int) ≤ (v7).toInt ∧ (v7).toInt ≤ 10 from ⟨by omega, by omega⟩) (show (0 : Int) ≤ (z5).toInt ∧ (z5).toInt ≤ 2147483647 from ⟨by omega, by omega⟩) (show 12 - (v7).toInt ≤ m6 from by omega)
      · have q11 : (((zA s0 16) (Int32.toNatClampNeg v7))).toInt ≠ (v2).toInt := tneq c6
        have q12 : (0 : Int) ≤ ((zI s0 47)).toInt ∧ ((zI s0 47)).toInt ≤ 40 := (h_s0).1 47
        exact t_Mo_loudOfSet_b52 N hN kh6 m6 _ _ _ _ _ _ _ _  hkh6 h_s0 (show (1 : Int) ≤ ((zI s0 29)).toInt ∧ ((zI s0 29)).toInt ≤ 11 from ⟨by omega, by omega⟩) (show (1 : Int) ≤ ((zI s0 47)).toInt ∧ ((zI s0 47)).toInt ≤ 40 from ⟨by omega, by omega⟩) (show (0 : Int) ≤ (v1).toInt ∧ (v1).toInt ≤ 2047 from ⟨by omega, by omega⟩) (show (0 : Int) ≤ (v3).toInt ∧ (v3).toInt ≤ 3 from ⟨by omega, by omega⟩) (show (0 : Int) ≤ (v5).toInt ∧ (v5).toInt ≤ 20 from ⟨by omega, by omega⟩) (show (0 : Int) ≤ (v7).toInt ∧ (v7).toInt ≤ 10 from ⟨by omega, by omega⟩) (show 12 - (v7).toInt ≤ m6 from by omega)
    · have q13 : (0 : Int) ≤ ((zI s0 47)).toInt ∧ ((zI s0 47)).toInt ≤ 40 := (h_s0).1 47
      exact t_Mo_loudOfSet_b52 N hN kh6 m6 _ _ _ _ _ _ _ _  hkh6 h_s0 (show (1 : Int) ≤ ((zI s0 29)).toInt ∧ ((zI s0 29)).toInt ≤ 11 from ⟨by omega, by omega⟩) (show (1 : Int) ≤ ((zI s0 47)).toInt ∧ ((zI s0 47)).toInt ≤ 40 from ⟨by omega, by omega⟩) (show (0 : Int) ≤ (v1).toInt ∧ (v1).toInt ≤ 2047 from ⟨by omega, by omega⟩) (show (0 : Int) ≤ (v3).toInt ∧ (v3).toInt ≤ 3 from ⟨by omega, by omega⟩) (show (0 : Int) ≤ (v5).toInt ∧ (v5).toInt ≤ 20 from ⟨by omega, by omega⟩) (show (0 : Int) ≤ (v7).toInt ∧ (v7).toInt ≤ 10 from ⟨by omega, by omega⟩) (show 12 - (v7).toInt ≤ m6 from by omega)
theorem t_Mo_loudOfSet_h6 (N : Nat) (hN : 50000000 ≤ N) (s0 : zSt) (v1 : Int32) (v2 : Int32) (v3 : Int32) (v4 : Int32) (v5 : Int32) (h_s0 : I_Mo s0) (h_s0_47 : (1 : Int) ≤ (zI s0 47).toInt ∧ (zI s0 47).toInt ≤ 40) (h_v1 : (0 : Int) ≤ (v1).toInt ∧ (v1).toInt ≤ 2047) (h_v3 : (0 : Int) ≤ (v3).toInt ∧ (v3).toInt ≤ 3) (h_v5 : (0 : Int) ≤ (v5).toInt ∧ (v5).toInt ≤ 20) : ∀ (n : Nat) (v6 : Int32) (v7 : Int32), (0 : Int) ≤ (v7).toInt ∧ (v7).toInt ≤ 11 → 12 - (v7).toInt ≤ (n : Int) → zok (Mo_loudOfSet_h6 N s0 v1 v2 v3 v4 v5 n v6 v7) (fun z => True)
  | 0, v6, v7, h_v7, hm => absurd hm (by omega)
  | n + 1, v6, v7, h_v7, hm => by
    rw [Mo_loudOfSet_h6_s]
    exact t_Mo_loudOfSet_b6 N hN (Mo_loudOfSet_h6 N s0 v1 v2 v3 v4 v5 n) ((n + 1 : Nat) : Int) s0 v1 v2 v3 v4 v5 v6 v7  (fun v6 v7 h_v7 q => t_Mo_loudOfSet_h6 N hN  s0 v1 v2 v3 v4 v5   h_s0 h_s0_47 h_v1 h_v3 h_v5   n v6 v7 h_v7 (by omega)) h_s0 h_s0_47 h_v1 h_v3 h_v5 h_v7  hm
theorem t_Mo_loudOfSet_b0 (N : Nat) (hN : 50000000 ≤ N) (s0 : zSt) (v1 : Int32) (v2 : Int32) (v3 : Int32) (v4 : Int32) (v5 : Int32) (h_s0 : I_Mo s0) (h_s0_47 : (1 : Int) ≤ (zI s0 47).toInt ∧ (zI s0 47).toInt ≤ 40) (h_v1 : (0 : Int) ≤ (v1).toInt ∧ (v1).toInt ≤ 2047) (h_v3 : (0 : Int) ≤ (v3).toInt ∧ (v3).toInt ≤ 3) (h_v5 : (0 : Int) ≤ (v5).toInt ∧ (v5).toInt ≤ 20) : zok (Mo_loudOfSet_b0 N s0 v1 v2 v3 v4 v5) (fun z => True) := by
  rw [Mo_loudOfSet_b0]
  have q1 : (0 : Int) ≤ ((zI s0 47)).toInt ∧ ((zI s0 47)).toInt ≤ 40 := (h_s0).1 47
  have q2 := li_0
  exact t_Mo_loudOfSet_h6 N hN  _ _ _ _ _ _   h_s0 (show (1 : Int) ≤ ((zI s0 47)).toInt ∧ ((zI s0 47)).toInt ≤ 40 from ⟨by omega, by omega⟩) (show (0 : Int) ≤ (v1).toInt ∧ (v1).toInt ≤ 2047 from ⟨by omega, by omega⟩) (show (0 : Int) ≤ (v3).toInt ∧ (v3).toInt ≤ 3 from ⟨by omega, by omega⟩) (show (0 : Int) ≤ (v5).toInt ∧ (v5).toInt ≤ 20 from ⟨by omega, by omega⟩)  N _ _ (show (0 : Int) ≤ ((0 : Int32)).toInt ∧ ((0 : Int32)).toInt ≤ 11 from ⟨by omega, by omega⟩) (show 12 - ((0 : Int32)).toInt ≤ (N : Int) from by omega)
theorem t_Mo_loudOfSet (N : Nat) (hN : 50000000 ≤ N) (s0 : zSt) (v1 : Int32) (v2 : Int32) (v3 : Int32) (v4 : Int32) (v5 : Int32) (h_s0 : I_Mo s0) (h_s0_47 : (1 : Int) ≤ (zI s0 47).toInt ∧ (zI s0 47).toInt ≤ 40) (h_v1 : (0 : Int) ≤ (v1).toInt ∧ (v1).toInt ≤ 2047) (h_v3 : (0 : Int) ≤ (v3).toInt ∧ (v3).toInt ≤ 3) (h_v5 : (0 : Int) ≤ (v5).toInt ∧ (v5).toInt ≤ 20) : zok (Mo_loudOfSet N s0 v1 v2 v3 v4 v5) (fun z => True) :=
  t_Mo_loudOfSet_b0 N hN s0 v1 v2 v3 v4 v5  h_s0 h_s0_47 h_v1 h_v3 h_v5 
theorem t_Mo_isSo_b0 (N : Nat) (hN : 50000000 ≤ N) (s0 : zSt) (v1 : Int32) (v2 : Int32) (v3 : Int32) (v4 : Int32) (h_s0 : I_Mo s0) (h_s0_47 : (1 : Int) ≤ (zI s0 47).toInt ∧ (zI s0 47).toInt ≤ 40) (h_v1 : (0 : Int) ≤ (v1).toInt ∧ (v1).toInt ≤ 39) (h_v2 : (0 : Int) ≤ (v2).toInt ∧ (v2).toInt ≤ 2047) (h_v4 : (0 : Int) ≤ (v4).toInt ∧ (v4).toInt ≤ 20) : zok (Mo_isSo_b0 N s0 v1 v2 v3 v4) (fun z => ((0 : Int) ≤ (z).toInt ∧ (z).toInt ≤ 1)) := by
  rw [Mo_isSo_b0]
  refine zok_ck (show vp_in v1 40 from vin (by omega) (by omega)) ?_
  refine zok_ck (show vp_in v1 40 from vin (by omega) (by omega)) ?_
  have q1 : (0 : Int) ≤ ((zI s0 47)).toInt ∧ ((zI s0 47)).toInt ≤ 40 := (h_s0).1 47
  have q2 : (0 : Int) ≤ (((zA s0 41) (Int32.toNatClampNeg v1))).toInt ∧ (((zA s0 41) (Int32.toNatClampNeg v1))).toInt ≤ 3 := (h_s0).2 41 _
  refine zok_bind (t_Mo_loudOfSet N hN s0 v2 ((zA s0 42) (Int32.toNatClampNeg v1)) ((zA s0 41) (Int32.toNatClampNeg v1)) v3 v4 h_s0 (show (1 : Int) ≤ ((zI s0 47)).toInt ∧ ((zI s0 47)).toInt ≤ 40 from ⟨by omega, by omega⟩) (show (0 : Int) ≤ (v2).toInt ∧ (v2).toInt ≤ 2047 from ⟨by omega, by omega⟩) (show (0 : Int) ≤ (((zA s0 41) (Int32.toNatClampNeg v1))).toInt ∧ (((zA s0 41) (Int32.toNatClampNeg v1))).toInt ≤ 3 from ⟨by omega, by omega⟩) (show (0 : Int) ≤ (v4).toInt ∧ (v4).toInt ≤ 20 from ⟨by omega, by omega⟩)) (fun z3 hz3 => ?_)
  have h_z3 := hz3
  refine zok_ck (show vp_in v1 40 from vin (by omega) (by omega)) ?_
  have q4 := tr z3
  have q5 := tr ((zA s0 43) (Int32.toNatClampNeg v1))
  refine zok_ite (fun c3 => ?_) (fun c3 => ?_)
  · have q6 : (z3).toInt < (((zA s0 43) (Int32.toNatClampNeg v1))).toInt := tlt c3
    have q7 := li_0
    exact zok_some (show (0 : Int) ≤ ((0 : Int32)).toInt ∧ ((0 : Int32)).toInt ≤ 1 from ⟨by omega, by omega⟩)
  · have q8 : (z3).toInt ≥ (((zA s0 43) (Int32.toNatClampNeg v1))).toInt := tnlt c3
    refine zok_ck (show vp_in v1 40 from vin (by omega) (by omega)) ?_
    have q10 := tr ((zA s0 44) (Int32.toNatClampNeg v1))
    refine zok_ite (fun c9 => ?_) (fun c9 => ?_)
    · have q11 : (((zA s0 44) (Int32.toNatClampNeg v1))).toInt < (z3).toInt := tlt c9
      have q12 := li_0
      exact zok_some (show (0 : Int) ≤ ((0 : Int32)).toInt ∧ ((0 : Int32)).toInt ≤ 1 from ⟨by omega, by omega⟩)
    · have q13 : (((zA s0 44) (Int32.toNatClampNeg v1))).toInt ≥ (z3).toInt := tnlt c9
      have q14 := li_1
      exact zok_some (show (0 : Int) ≤ ((1 : Int32)).toInt ∧ ((1 : Int32)).toInt ≤ 1 from ⟨by omega, by omega⟩)
theorem t_Mo_isSo (N : Nat) (hN : 50000000 ≤ N) (s0 : zSt) (v1 : Int32) (v2 : Int32) (v3 : Int32) (v4 : Int32) (h_s0 : I_Mo s0) (h_s0_47 : (1 : Int) ≤ (zI s0 47).toInt ∧ (zI s0 47).toInt ≤ 40) (h_v1 : (0 : Int) ≤ (v1).toInt ∧ (v1).toInt ≤ 39) (h_v2 : (0 : Int) ≤ (v2).toInt ∧ (v2).toInt ≤ 2047) (h_v4 : (0 : Int) ≤ (v4).toInt ∧ (v4).toInt ≤ 20) : zok (Mo_isSo N s0 v1 v2 v3 v4) (fun z => ((0 : Int) ≤ (z).toInt ∧ (z).toInt ≤ 1)) :=
  t_Mo_isSo_b0 N hN s0 v1 v2 v3 v4  h_s0 h_s0_47 h_v1 h_v2 h_v4 
theorem t_Mo_areSo_b61 (N : Nat) (hN : 50000000 ≤ N) (kh6 : Int32 → Int32 → Option (Int32)) (m6 : Int) (s0 : zSt) (v1 : Int32) (v2 : Int32) (v3 : Int32) (v4 : Int32) (v5 : Int32) (v7 : Int32) (t0 : Int32) (hkh6 : ∀ (v6 : Int32) (v7 : Int32), (0 : Int) ≤ (v6).toInt ∧ (v6).toInt ≤ 1 → (0 : Int) ≤ (v7).toInt ∧ (v7).toInt ≤ 40 → 41 - (v7).toInt ≤ m6 - 1 → zok (kh6 v6 v7) (fun z => ((0 : Int) ≤ (z).toInt ∧ (z).toInt ≤ 1))) (h_s0 : I_Mo s0) (h_s0_47 : (1 : Int) ≤ (zI s0 47).toInt ∧ (zI s0 47).toInt ≤ 40) (h_v1 : (0 : Int) ≤ (v1).toInt ∧ (v1).toInt ≤ 2047) (h_v2 : (0 : Int) ≤ (v2).toInt ∧ (v2).toInt ≤ 99) (h_v3 : (0 : Int) ≤ (v3).toInt ∧ (v3).toInt ≤ 95) (h_v4 : (0 : Int) ≤ (v4).toInt ∧ (v4).toInt ≤ 20) (h_v7 : (0 : Int) ≤ (v7).toInt ∧ (v7).toInt ≤ 39) (h_t0 : (0 : Int) ≤ (t0).toInt ∧ (t0).toInt ≤ 1) (hm6 : 41 - (v7).toInt ≤ m6) : zok (Mo_areSo_b61 N kh6 s0 v1 v2 v3 v4 v5 v7 t0) (fun z => ((0 : Int) ≤ (z).toInt ∧ (z).toInt ≤ 1)) := by
  rw [Mo_areSo_b61]
  have q1 := li_1
  have q2 := tadd v7 (1 : Int32) (by omega) (by omega)
  exact hkh6 _ _ (show (0 : Int) ≤ (t0).toInt ∧ (t0).toInt ≤ 1 from ⟨by omega, by omega⟩) (show (0 : Int) ≤ ((v7 + (1 : Int32))).toInt ∧ ((v7 + (1 : Int32))).toInt ≤ 40 from ⟨by omega, by omega⟩) (show 41 - ((v7 + (1 : Int32))).toInt ≤ m6 - 1 by omega)
theorem t_Mo_areSo_b56 (N : Nat) (hN : 50000000 ≤ N) (kh6 : Int32 → Int32 → Option (Int32)) (m6 : Int) (s0 : zSt) (v1 : Int32) (v2 : Int32) (v3 : Int32) (v4 : Int32) (v5 : Int32) (v7 : Int32) (hkh6 : ∀ (v6 : Int32) (v7 : Int32), (0 : Int) ≤ (v6).toInt ∧ (v6).toInt ≤ 1 → (0 : Int) ≤ (v7).toInt ∧ (v7).toInt ≤ 40 → 41 - (v7).toInt ≤ m6 - 1 → zok (kh6 v6 v7) (fun z => ((0 : Int) ≤ (z).toInt ∧ (z).toInt ≤ 1))) (h_s0 : I_Mo s0) (h_s0_47 : (1 : Int) ≤ (zI s0 47).toInt ∧ (zI s0 47).toInt ≤ 40) (h_v1 : (0 : Int) ≤ (v1).toInt ∧ (v1).toInt ≤ 2047) (h_v2 : (0 : Int) ≤ (v2).toInt ∧ (v2).toInt ≤ 99) (h_v3 : (0 : Int) ≤ (v3).toInt ∧ (v3).toInt ≤ 95) (h_v4 : (0 : Int) ≤ (v4).toInt ∧ (v4).toInt ≤ 20) (h_v7 : (0 : Int) ≤ (v7).toInt ∧ (v7).toInt ≤ 39) (hm6 : 41 - (v7).toInt ≤ m6) : zok (Mo_areSo_b56 N kh6 s0 v1 v2 v3 v4 v5 v7) (fun z => ((0 : Int) ≤ (z).toInt ∧ (z).toInt ≤ 1)) := by
  rw [Mo_areSo_b56]
  have q1 : (0 : Int) ≤ ((zI s0 47)).toInt ∧ ((zI s0 47)).toInt ≤ 40 := (h_s0).1 47
  have q2 := li_1
  exact t_Mo_areSo_b61 N hN kh6 m6 _ _ _ _ _ _ _ _  hkh6 h_s0 (show (1 : Int) ≤ ((zI s0 47)).toInt ∧ ((zI s0 47)).toInt ≤ 40 from ⟨by omega, by omega⟩) (show (0 : Int) ≤ (v1).toInt ∧ (v1).toInt ≤ 2047 from ⟨by omega, by omega⟩) (show (0 : Int) ≤ (v2).toInt ∧ (v2).toInt ≤ 99 from ⟨by omega, by omega⟩) (show (0 : Int) ≤ (v3).toInt ∧ (v3).toInt ≤ 95 from ⟨by omega, by omega⟩) (show (0 : Int) ≤ (v4).toInt ∧ (v4).toInt ≤ 20 from ⟨by omega, by omega⟩) (show (0 : Int) ≤ (v7).toInt ∧ (v7).toInt ≤ 39 from ⟨by omega, by omega⟩) (show (0 : Int) ≤ ((1 : Int32)).toInt ∧ ((1 : Int32)).toInt ≤ 1 from ⟨by omega, by omega⟩) (show 41 - (v7).toInt ≤ m6 from by omega)
theorem t_Mo_areSo_b6 (N : Nat) (hN : 50000000 ≤ N) (kh6 : Int32 → Int32 → Option (Int32)) (m6 : Int) (s0 : zSt) (v1 : Int32) (v2 : Int32) (v3 : Int32) (v4 : Int32) (v5 : Int32) (v6 : Int32) (v7 : Int32) (hkh6 : ∀ (v6 : Int32) (v7 : Int32), (0 : Int) ≤ (v6).toInt ∧ (v6).toInt ≤ 1 → (0 : Int) ≤ (v7).toInt ∧ (v7).toInt ≤ 40 → 41 - (v7).toInt ≤ m6 - 1 → zok (kh6 v6 v7) (fun z => ((0 : Int) ≤ (z).toInt ∧ (z).toInt ≤ 1))) (h_s0 : I_Mo s0) (h_v1 : (0 : Int) ≤ (v1).toInt ∧ (v1).toInt ≤ 2047) (h_v2 : (0 : Int) ≤ (v2).toInt ∧ (v2).toInt ≤ 99) (h_v3 : (0 : Int) ≤ (v3).toInt ∧ (v3).toInt ≤ 95) (h_v4 : (0 : Int) ≤ (v4).toInt ∧ (v4).toInt ≤ 20) (h_v6 : (0 : Int) ≤ (v6).toInt ∧ (v6).toInt ≤ 1) (h_v7 : (0 : Int) ≤ (v7).toInt ∧ (v7).toInt ≤ 40) (hm6 : 41 - (v7).toInt ≤ m6) : zok (Mo_areSo_b6 N kh6 s0 v1 v2 v3 v4 v5 v6 v7) (fun z => ((0 : Int) ≤ (z).toInt ∧ (z).toInt ≤ 1)) := by
  rw [Mo_areSo_b6]
  have q2 : (0 : Int) ≤ ((zI s0 47)).toInt ∧ ((zI s0 47)).toInt ≤ 40 := (h_s0).1 47
  refine zok_ite (fun c1 => ?_) (fun c1 => ?_)
  · have q3 : ((zI s0 47)).toInt ≤ (v7).toInt := tle c1
    refine zok_cb (t01 (by omega) (by omega)) ?_
    exact zok_some (show (0 : Int) ≤ (v6).toInt ∧ (v6).toInt ≤ 1 from ⟨by omega, by omega⟩)
  · have q4 : ((zI s0 47)).toInt > (v7).toInt := tnle c1
    have q6 := li_0
    refine zok_ite (fun c5 => ?_) (fun c5 => ?_)
    · have q7 : (v6).toInt = ((0 : Int32)).toInt := teq c5
      refine zok_cb (t01 (by omega) (by omega)) ?_
      exact zok_some (show (0 : Int) ≤ (v6).toInt ∧ (v6).toInt ≤ 1 from ⟨by omega, by omega⟩)
    · have q8 : (v6).toInt ≠ ((0 : Int32)).toInt := tneq c5
      refine zok_bind (t_Mo_counts N hN s0 v7 (0 : Int32) v5 h_s0 (show (0 : Int) ≤ (v7).toInt ∧ (v7).toInt ≤ 39 from ⟨by omega, by omega⟩) (show (0 : Int) ≤ ((0 : Int32)).toInt ∧ ((0 : Int32)).toInt ≤ 1 from ⟨by omega, by omega⟩)) (fun z5 hz5 => ?_)
      have h_z5 := hz5
      refine zok_ite (fun c9 => ?_) (fun c9 => ?_)
      · have q10 : (z5).toInt = ((0 : Int32)).toInt := teq c9
        exact t_Mo_areSo_b56 N hN kh6 m6 _ _ _ _ _ _ _  hkh6 h_s0 (show (1 : Int) ≤ ((zI s0 47)).toInt ∧ ((zI s0 47)).toInt ≤ 40 from ⟨by omega, by omega⟩) (show (0 : Int) ≤ (v1).toInt ∧ (v1).toInt ≤ 2047 from ⟨by omega, by omega⟩) (show (0 : Int) ≤ (v2).toInt ∧ (v2).toInt ≤ 99 from ⟨by omega, by omega⟩) (show (0 : Int) ≤ (v3).toInt ∧ (v3).toInt ≤ 95 from ⟨by omega, by omega⟩) (show (0 : Int) ≤ (v4).toInt ∧ (v4).toInt ≤ 20 from ⟨by omega, by omega⟩) (show (0 : Int) ≤ (v7).toInt ∧ (v7).toInt ≤ 39 from ⟨by omega, by omega⟩) (show 41 - (v7).toInt ≤ m6 from by omega)
      · have q11 : (z5).toInt ≠ ((0 : Int32)).toInt := tneq c9
        refine zok_ck (show vp_in v7 40 from vin (by omega) (by omega)) ?_
        have q13 := tr ((zA s0 40) (Int32.toNatClampNeg v7))
        refine zok_ite (fun c12 => ?_) (fun c12 => ?_)
        · have q14 : (((zA s0 40) (Int32.toNatClampNeg v7))).toInt = (v3).toInt := teq c12
          refine zok_bind (t_Mo_isSo N hN s0 v7 v1 v2 v4 h_s0 (show (1 : Int) ≤ ((zI s0 47)).toInt ∧ ((zI s0 47)).toInt ≤ 40 from ⟨by omega, by omega⟩) (show (0 : Int) ≤ (v7).toInt ∧ (v7).toInt ≤ 39 from ⟨by omega, by omega⟩) (show (0 : Int) ≤ (v1).toInt ∧ (v1).toInt ≤ 2047 from ⟨by omega, by omega⟩) (show (0 : Int) ≤ (v4).toInt ∧ (v4).toInt ≤ 20 from ⟨by omega, by omega⟩)) (fun z10 hz10 => ?_)
          have h_z10 := hz10
          refine zok_ite (fun c15 => ?_) (fun c15 => ?_)
          · have q16 : (z10).toInt = ((0 : Int32)).toInt := teq c15
            exact t_Mo_areSo_b61 N hN kh6 m6 _ _ _ _ _ _ _ _  hkh6 h_s0 (show (1 : Int) ≤ ((zI s0 47)).toInt ∧ ((zI s0 47)).toInt ≤ 40 from ⟨by omega, by omega⟩) (show (0 : Int) ≤ (v1).toInt ∧ (v1).toInt ≤ 2047 from ⟨by omega, by omega⟩) (show (0 : Int) ≤ (v2).toInt ∧ (v2).toInt ≤ 99 from ⟨by omega, by omega⟩) (show (0 : Int) ≤ (v3).toInt ∧ (v3).toInt ≤ 95 from ⟨by omega, by omega⟩) (show (0 : Int) ≤ (v4).toInt ∧ (v4).toInt ≤ 20 from ⟨by omega, by omega⟩) (show (0 : Int) ≤ (v7).toInt ∧ (v7).toInt ≤ 39 from ⟨by omega, by omega⟩) (show (0 : Int) ≤ ((0 : Int32)).toInt ∧ ((0 : Int32)).toInt ≤ 1 from ⟨by omega, by omega⟩) (show 41 - (v7).toInt ≤ m6 from by omega)
          · have q17 : (z10).toInt ≠ ((0 : Int32)).toInt := tneq c15
            exact t_Mo_areSo_b56 N hN kh6 m6 _ _ _ _ _ _ _  hkh6 h_s0 (show (1 : Int) ≤ ((zI s0 47)).toInt ∧ ((zI s0 47)).toInt ≤ 40 from ⟨by omega, by omega⟩) (show (0 : Int) ≤ (v1).toInt ∧ (v1).toInt ≤ 2047 from ⟨by omega, by omega⟩) (show (0 : Int) ≤ (v2).toInt ∧ (v2).toInt ≤ 99 from ⟨by omega, by omega⟩) (show (0 : Int) ≤ (v3).toInt ∧ (v3).toInt ≤ 95 from ⟨by omega, by omega⟩) (show (0 : Int) ≤ (v4).toInt ∧ (v4).toInt ≤ 20 from ⟨by omega, by omega⟩) (show (0 : Int) ≤ (v7).toInt ∧ (v7).toInt ≤ 39 from ⟨by omega, by omega⟩) (show 41 - (v7).toInt ≤ m6 from by omega)
        · have q18 : (((zA s0 40) (Int32.toNatClampNeg v7))).toInt ≠ (v3).toInt := tneq c12
          exact t_Mo_areSo_b56 N hN kh6 m6 _ _ _ _ _ _ _  hkh6 h_s0 (show (1 : Int) ≤ ((zI s0 47)).toInt ∧ ((zI s0 47)).toInt ≤ 40 from ⟨by omega, by omega⟩) (show (0 : Int) ≤ (v1).toInt ∧ (v1).toInt ≤ 2047 from ⟨by omega, by omega⟩) (show (0 : Int) ≤ (v2).toInt ∧ (v2).toInt ≤ 99 from ⟨by omega, by omega⟩) (show (0 : Int) ≤ (v3).toInt ∧ (v3).toInt ≤ 95 from ⟨by omega, by omega⟩) (show (0 : Int) ≤ (v4).toInt ∧ (v4).toInt ≤ 20 from ⟨by omega, by omega⟩) (show (0 : Int) ≤ (v7).toInt ∧ (v7).toInt ≤ 39 from ⟨by omega, by omega⟩) (show 41 - (v7).toInt ≤ m6 from by omega)
theorem t_Mo_areSo_h6 (N : Nat) (hN : 50000000 ≤ N) (s0 : zSt) (v1 : Int32) (v2 : Int32) (v3 : Int32) (v4 : Int32) (v5 : Int32) (h_s0 : I_Mo s0) (h_v1 : (0 : Int) ≤ (v1).toInt ∧ (v1).toInt ≤ 2047) (h_v2 : (0 : Int) ≤ (v2).toInt ∧ (v2).toInt ≤ 99) (h_v3 : (0 : Int) ≤ (v3).toInt ∧ (v3).toInt ≤ 95) (h_v4 : (0 : Int) ≤ (v4).toInt ∧ (v4).toInt ≤ 20) : ∀ (n : Nat) (v6 : Int32) (v7 : Int32), (0 : Int) ≤ (v6).toInt ∧ (v6).toInt ≤ 1 → (0 : Int) ≤ (v7).toInt ∧ (v7).toInt ≤ 40 → 41 - (v7).toInt ≤ (n : Int) → zok (Mo_areSo_h6 N s0 v1 v2 v3 v4 v5 n v6 v7) (fun z => ((0 : Int) ≤ (z).toInt ∧ (z).toInt ≤ 1))
  | 0, v6, v7, h_v6, h_v7, hm => absurd hm (by omega)
  | n + 1, v6, v7, h_v6, h_v7, hm => by
    rw [Mo_areSo_h6_s]
    exact t_Mo_areSo_b6 N hN (Mo_areSo_h6 N s0 v1 v2 v3 v4 v5 n) ((n + 1 : Nat) : Int) s0 v1 v2 v3 v4 v5 v6 v7  (fun v6 v7 h_v6 h_v7 q => t_Mo_areSo_h6 N hN  s0 v1 v2 v3 v4 v5   h_s0 h_v1 h_v2 h_v3 h_v4   n v6 v7 h_v6 h_v7 (by omega)) h_s0 h_v1 h_v2 h_v3 h_v4 h_v6 h_v7  hm
theorem t_Mo_areSo_b0 (N : Nat) (hN : 50000000 ≤ N) (s0 : zSt) (v1 : Int32) (v2 : Int32) (v3 : Int32) (v4 : Int32) (v5 : Int32) (h_s0 : I_Mo s0) (h_v1 : (0 : Int) ≤ (v1).toInt ∧ (v1).toInt ≤ 2047) (h_v2 : (0 : Int) ≤ (v2).toInt ∧ (v2).toInt ≤ 99) (h_v3 : (0 : Int) ≤ (v3).toInt ∧ (v3).toInt ≤ 95) (h_v4 : (0 : Int) ≤ (v4).toInt ∧ (v4).toInt ≤ 20) : zok (Mo_areSo_b0 N s0 v1 v2 v3 v4 v5) (fun z => ((0 : Int) ≤ (z).toInt ∧ (z).toInt ≤ 1)) := by
  rw [Mo_areSo_b0]
  have q1 := li_1
  have q2 := li_0
  exact t_Mo_areSo_h6 N hN  _ _ _ _ _ _   h_s0 (show (0 : Int) ≤ (v1).toInt ∧ (v1).toInt ≤ 2047 from ⟨by omega, by omega⟩) (show (0 : Int) ≤ (v2).toInt ∧ (v2).toInt ≤ 99 from ⟨by omega, by omega⟩) (show (0 : Int) ≤ (v3).toInt ∧ (v3).toInt ≤ 95 from ⟨by omega, by omega⟩) (show (0 : Int) ≤ (v4).toInt ∧ (v4).toInt ≤ 20 from ⟨by omega, by omega⟩)  N _ _ (show (0 : Int) ≤ ((1 : Int32)).toInt ∧ ((1 : Int32)).toInt ≤ 1 from ⟨by omega, by omega⟩) (show (0 : Int) ≤ ((0 : Int32)).toInt ∧ ((0 : Int32)).toInt ≤ 40 from ⟨by omega, by omega⟩) (show 41 - ((0 : Int32)).toInt ≤ (N : Int) from by omega)
theorem t_Mo_areSo (N : Nat) (hN : 50000000 ≤ N) (s0 : zSt) (v1 : Int32) (v2 : Int32) (v3 : Int32) (v4 : Int32) (v5 : Int32) (h_s0 : I_Mo s0) (h_v1 : (0 : Int) ≤ (v1).toInt ∧ (v1).toInt ≤ 2047) (h_v2 : (0 : Int) ≤ (v2).toInt ∧ (v2).toInt ≤ 99) (h_v3 : (0 : Int) ≤ (v3).toInt ∧ (v3).toInt ≤ 95) (h_v4 : (0 : Int) ≤ (v4).toInt ∧ (v4).toInt ≤ 20) : zok (Mo_areSo N s0 v1 v2 v3 v4 v5) (fun z => ((0 : Int) ≤ (z).toInt ∧ (z).toInt ≤ 1)) :=
  t_Mo_areSo_b0 N hN s0 v1 v2 v3 v4 v5  h_s0 h_v1 h_v2 h_v3 h_v4 
theorem t_Mo_sets_b212 (N : Nat) (hN : 50000000 ≤ N) (kh171 : zSt → Int32 → Int32 → Int32 → Int32 → Option (Int32 × zSt)) (m171 : Int) (s0 : zSt) (v3 : Int32) (v5 : Int32) (v6 : Int32) (v7 : Int32) (v8 : Int32) (v9 : Int32) (v10 : Int32) (v11 : Int32) (gs0 : zSt) (hkh171 : ∀ (s0 : zSt) (v8 : Int32) (v9 : Int32) (v10 : Int32) (v11 : Int32), I_Mo s0 → (-1 : Int) ≤ (v9).toInt ∧ (v9).toInt ≤ 99 → (-1 : Int) ≤ (v10).toInt ∧ (v10).toInt ≤ 99 → (0 : Int) ≤ (v11).toInt ∧ (v11).toInt ≤ 100 → Fr [] [49] s0 gs0 → 101 - (v11).toInt ≤ m171 - 1 → zok (kh171 s0 v8 v9 v10 v11) (fun z => True ∧ I_Mo z.2 ∧ Fr [] [49] z.2 gs0)) (h_s0 : I_Mo s0) (h_v3 : (0 : Int) ≤ (v3).toInt ∧ (v3).toInt ≤ 5) (h_v6 : (0 : Int) ≤ (v6).toInt ∧ (v6).toInt ≤ 2047) (h_v7 : (0 : Int) ≤ (v7).toInt ∧ (v7).toInt ≤ 2047) (h_v9 : (-1 : Int) ≤ (v9).toInt ∧ (v9).toInt ≤ 99) (h_v10 : (-1 : Int) ≤ (v10).toInt ∧ (v10).toInt ≤ 99) (h_v11 : (0 : Int) ≤ (v11).toInt ∧ (v11).toInt ≤ 99) (g_s0 : Fr [] [49] s0 gs0) (hm171 : 101 - (v11).toInt ≤ m171) : zok (Mo_sets_b212 N kh171 s0 v3 v5 v6 v7 v8 v9 v10 v11) (fun z => True ∧ I_Mo z.2 ∧ Fr [] [49] z.2 gs0) := by
  rw [Mo_sets_b212]
  have q1 := li_1
  have q2 := tadd v11 (1 : Int32) (by omega) (by omega)
  exact hkh171 _ _ _ _ _ h_s0 (show (-1 : Int) ≤ (v9).toInt ∧ (v9).toInt ≤ 99 from ⟨by omega, by omega⟩) (show (-1 : Int) ≤ (v10).toInt ∧ (v10).toInt ≤ 99 from ⟨by omega, by omega⟩) (show (0 : Int) ≤ ((v11 + (1 : Int32))).toInt ∧ ((v11 + (1 : Int32))).toInt ≤ 100 from ⟨by omega, by omega⟩) g_s0 (show 101 - ((v11 + (1 : Int32))).toInt ≤ m171 - 1 by omega)
theorem t_Mo_sets_b206 (N : Nat) (hN : 50000000 ≤ N) (kh171 : zSt → Int32 → Int32 → Int32 → Int32 → Option (Int32 × zSt)) (m171 : Int) (s0 : zSt) (v3 : Int32) (v5 : Int32) (v6 : Int32) (v7 : Int32) (v8 : Int32) (v11 : Int32) (t0 : Int32) (gs0 : zSt) (hkh171 : ∀ (s0 : zSt) (v8 : Int32) (v9 : Int32) (v10 : Int32) (v11 : Int32), I_Mo s0 → (-1 : Int) ≤ (v9).toInt ∧ (v9).toInt ≤ 99 → (-1 : Int) ≤ (v10).toInt ∧ (v10).toInt ≤ 99 → (0 : Int) ≤ (v11).toInt ∧ (v11).toInt ≤ 100 → Fr [] [49] s0 gs0 → 101 - (v11).toInt ≤ m171 - 1 → zok (kh171 s0 v8 v9 v10 v11) (fun z => True ∧ I_Mo z.2 ∧ Fr [] [49] z.2 gs0)) (h_s0 : I_Mo s0) (h_v3 : (0 : Int) ≤ (v3).toInt ∧ (v3).toInt ≤ 5) (h_v6 : (0 : Int) ≤ (v6).toInt ∧ (v6).toInt ≤ 2047) (h_v7 : (0 : Int) ≤ (v7).toInt ∧ (v7).toInt ≤ 2047) (h_v11 : (0 : Int) ≤ (v11).toInt ∧ (v11).toInt ≤ 99) (h_t0 : (0 : Int) ≤ (t0).toInt ∧ (t0).toInt ≤ 99) (g_s0 : Fr [] [49] s0 gs0) (hm171 : 101 - (v11).toInt ≤ m171) : zok (Mo_sets_b206 N kh171 s0 v3 v5 v6 v7 v8 v11 t0) (fun z => True ∧ I_Mo z.2 ∧ Fr [] [49] z.2 gs0) := by
  rw [Mo_sets_b206]
  exact t_Mo_sets_b212 N hN kh171 m171 _ _ _ _ _ _ _ _ _ gs0 hkh171 h_s0 (show (0 : Int) ≤ (v3).toInt ∧ (v3).toInt ≤ 5 from ⟨by omega, by omega⟩) (show (0 : Int) ≤ (v6).toInt ∧ (v6).toInt ≤ 2047 from ⟨by omega, by omega⟩) (show (0 : Int) ≤ (v7).toInt ∧ (v7).toInt ≤ 2047 from ⟨by omega, by omega⟩) (show (-1 : Int) ≤ (t0).toInt ∧ (t0).toInt ≤ 99 from ⟨by omega, by omega⟩) (show (-1 : Int) ≤ (v11).toInt ∧ (v11).toInt ≤ 99 from ⟨by omega, by omega⟩) (show (0 : Int) ≤ (v11).toInt ∧ (v11).toInt ≤ 99 from ⟨by omega, by omega⟩) g_s0 (show 101 - (v11).toInt ≤ m171 from by omega)
theorem t_Mo_sets_b171 (N : Nat) (hN : 50000000 ≤ N) (kh171 : zSt → Int32 → Int32 → Int32 → Int32 → Option (Int32 × zSt)) (m171 : Int) (s0 : zSt) (v3 : Int32) (v5 : Int32) (v6 : Int32) (v7 : Int32) (v8 : Int32) (v9 : Int32) (v10 : Int32) (v11 : Int32) (gs0 : zSt) (hkh171 : ∀ (s0 : zSt) (v8 : Int32) (v9 : Int32) (v10 : Int32) (v11 : Int32), I_Mo s0 → (-1 : Int) ≤ (v9).toInt ∧ (v9).toInt ≤ 99 → (-1 : Int) ≤ (v10).toInt ∧ (v10).toInt ≤ 99 → (0 : Int) ≤ (v11).toInt ∧ (v11).toInt ≤ 100 → Fr [] [49] s0 gs0 → 101 - (v11).toInt ≤ m171 - 1 → zok (kh171 s0 v8 v9 v10 v11) (fun z => True ∧ I_Mo z.2 ∧ Fr [] [49] z.2 gs0)) (h_s0 : I_Mo s0) (h_v3 : (0 : Int) ≤ (v3).toInt ∧ (v3).toInt ≤ 5) (h_v6 : (0 : Int) ≤ (v6).toInt ∧ (v6).toInt ≤ 2047) (h_v7 : (0 : Int) ≤ (v7).toInt ∧ (v7).toInt ≤ 2047) (h_v9 : (-1 : Int) ≤ (v9).toInt ∧ (v9).toInt ≤ 99) (h_v10 : (-1 : Int) ≤ (v10).toInt ∧ (v10).toInt ≤ 99) (h_v11 : (0 : Int) ≤ (v11).toInt ∧ (v11).toInt ≤ 100) (g_s0 : Fr [] [49] s0 gs0) (hm171 : 101 - (v11).toInt ≤ m171) : zok (Mo_sets_b171 N kh171 s0 v3 v5 v6 v7 v8 v9 v10 v11) (fun z => True ∧ I_Mo z.2 ∧ Fr [] [49] z.2 gs0) := by
  rw [Mo_sets_b171]
  have q2 := li_100
  refine zok_ite (fun c1 => ?_) (fun c1 => ?_)
  · have q3 : ((100 : Int32)).toInt ≤ (v11).toInt := tle c1
    have q5 := li_0
    refine zok_ite (fun c4 => ?_) (fun c4 => ?_)
    · have q6 : (v3).toInt = ((0 : Int32)).toInt := teq c4
      exact zok_some ⟨trivial, h_s0, g_s0⟩
    · have q7 : (v3).toInt ≠ ((0 : Int32)).toInt := tneq c4
      have q9 := li_1
      refine zok_ite (fun c8 => ?_) (fun c8 => ?_)
      · have q10 : (v3).toInt = ((1 : Int32)).toInt := teq c8
        have q12 := tr v5
        refine zok_ite (fun c11 => ?_) (fun c11 => ?_)
        · have q13 : (v5).toInt = ((0 : Int32)).toInt := teq c11
          exact zok_some ⟨trivial, h_s0, g_s0⟩
        · have q14 : (v5).toInt ≠ ((0 : Int32)).toInt := tneq c11
          exact zok_some ⟨trivial, h_s0, g_s0⟩
      · have q15 : (v3).toInt ≠ ((1 : Int32)).toInt := tneq c8
        have q17 := li_2
        refine zok_ite (fun c16 => ?_) (fun c16 => ?_)
        · have q18 : (v3).toInt = ((2 : Int32)).toInt := teq c16
          have q20 := tr v5
          refine zok_ite (fun c19 => ?_) (fun c19 => ?_)
          · have q21 : (v5).toInt = ((0 : Int32)).toInt := teq c19
            exact zok_some ⟨trivial, h_s0, g_s0⟩
          · have q22 : (v5).toInt ≠ ((0 : Int32)).toInt := tneq c19
            exact zok_some ⟨trivial, h_s0, g_s0⟩
        · have q23 : (v3).toInt ≠ ((2 : Int32)).toInt := tneq c16
          have q25 := li_3
          refine zok_ite (fun c24 => ?_) (fun c24 => ?_)
          · have q26 : (v3).toInt = ((3 : Int32)).toInt := teq c24
            exact zok_some ⟨trivial, h_s0, g_s0⟩
          · have q27 : (v3).toInt ≠ ((3 : Int32)).toInt := tneq c24
            have q29 := li_4
            refine zok_ite (fun c28 => ?_) (fun c28 => ?_)
            · have q30 : (v3).toInt = ((4 : Int32)).toInt := teq c28
              exact zok_some ⟨trivial, h_s0, g_s0⟩
            · have q31 : (v3).toInt ≠ ((4 : Int32)).toInt := tneq c28
              exact zok_some ⟨trivial, h_s0, g_s0⟩
  · have q32 : ((100 : Int32)).toInt > (v11).toInt := tnle c1
    refine zok_ck (show vp_in v11 100 from vin (by omega) (by omega)) ?_
    have q34 : (0 : Int) ≤ (((zA s0 49) (Int32.toNatClampNeg v11))).toInt ∧ (((zA s0 49) (Int32.toNatClampNeg v11))).toInt ≤ 1 := (h_s0).2 49 _
    have q35 := li_0
    refine zok_ite (fun c33 => ?_) (fun c33 => ?_)
    · have q36 : (((zA s0 49) (Int32.toNatClampNeg v11))).toInt = ((0 : Int32)).toInt := teq c33
      exact t_Mo_sets_b212 N hN kh171 m171 _ _ _ _ _ _ _ _ _ gs0 hkh171 h_s0 (show (0 : Int) ≤ (v3).toInt ∧ (v3).toInt ≤ 5 from ⟨by omega, by omega⟩) (show (0 : Int) ≤ (v6).toInt ∧ (v6).toInt ≤ 2047 from ⟨by omega, by omega⟩) (show (0 : Int) ≤ (v7).toInt ∧ (v7).toInt ≤ 2047 from ⟨by omega, by omega⟩) (show (-1 : Int) ≤ (v9).toInt ∧ (v9).toInt ≤ 99 from ⟨by omega, by omega⟩) (show (-1 : Int) ≤ (v10).toInt ∧ (v10).toInt ≤ 99 from ⟨by omega, by omega⟩) (show (0 : Int) ≤ (v11).toInt ∧ (v11).toInt ≤ 99 from ⟨by omega, by omega⟩) g_s0 (show 101 - (v11).toInt ≤ m171 from by omega)
    · have q37 : (((zA s0 49) (Int32.toNatClampNeg v11))).toInt ≠ ((0 : Int32)).toInt := tneq c33
      refine zok_ite (fun c38 => ?_) (fun c38 => ?_)
      · have q39 : ((0 : Int32)).toInt ≤ (v9).toInt := tle c38
        exact t_Mo_sets_b206 N hN kh171 m171 _ _ _ _ _ _ _ _ gs0 hkh171 h_s0 (show (0 : Int) ≤ (v3).toInt ∧ (v3).toInt ≤ 5 from ⟨by omega, by omega⟩) (show (0 : Int) ≤ (v6).toInt ∧ (v6).toInt ≤ 2047 from ⟨by omega, by omega⟩) (show (0 : Int) ≤ (v7).toInt ∧ (v7).toInt ≤ 2047 from ⟨by omega, by omega⟩) (show (0 : Int) ≤ (v11).toInt ∧ (v11).toInt ≤ 99 from ⟨by omega, by omega⟩) (show (0 : Int) ≤ (v9).toInt ∧ (v9).toInt ≤ 99 from ⟨by omega, by omega⟩) g_s0 (show 101 - (v11).toInt ≤ m171 from by omega)
      · have q40 : ((0 : Int32)).toInt > (v9).toInt := tnle c38
        exact t_Mo_sets_b206 N hN kh171 m171 _ _ _ _ _ _ _ _ gs0 hkh171 h_s0 (show (0 : Int) ≤ (v3).toInt ∧ (v3).toInt ≤ 5 from ⟨by omega, by omega⟩) (show (0 : Int) ≤ (v6).toInt ∧ (v6).toInt ≤ 2047 from ⟨by omega, by omega⟩) (show (0 : Int) ≤ (v7).toInt ∧ (v7).toInt ≤ 2047 from ⟨by omega, by omega⟩) (show (0 : Int) ≤ (v11).toInt ∧ (v11).toInt ≤ 99 from ⟨by omega, by omega⟩) (show (0 : Int) ≤ (v11).toInt ∧ (v11).toInt ≤ 99 from ⟨by omega, by omega⟩) g_s0 (show 101 - (v11).toInt ≤ m171 from by omega)
theorem t_Mo_sets_h171 (N : Nat) (hN : 50000000 ≤ N) (v3 : Int32) (v5 : Int32) (v6 : Int32) (v7 : Int32) (gs0 : zSt) (h_v3 : (0 : Int) ≤ (v3).toInt ∧ (v3).toInt ≤ 5) (h_v6 : (0 : Int) ≤ (v6).toInt ∧ (v6).toInt ≤ 2047) (h_v7 : (0 : Int) ≤ (v7).toInt ∧ (v7).toInt ≤ 2047) : ∀ (n : Nat) (s0 : zSt) (v8 : Int32) (v9 : Int32) (v10 : Int32) (v11 : Int32), I_Mo s0 → (-1 : Int) ≤ (v9).toInt ∧ (v9).toInt ≤ 99 → (-1 : Int) ≤ (v10).toInt ∧ (v10).toInt ≤ 99 → (0 : Int) ≤ (v11).toInt ∧ (v11).toInt ≤ 100 → Fr [] [49] s0 gs0 → 101 - (v11).toInt ≤ (n : Int) → zok (Mo_sets_h171 N v3 v5 v6 v7 n s0 v8 v9 v10 v11) (fun z => True ∧ I_Mo z.2 ∧ Fr [] [49] z.2 gs0)
  | 0, s0, v8, v9, v10, v11, h_s0, h_v9, h_v10, h_v11, g_s0, hm => absurd hm (by omega)
  | n + 1, s0, v8, v9, v10, v11, h_s0, h_v9, h_v10, h_v11, g_s0, hm => by
    rw [Mo_sets_h171_s]
    exact t_Mo_sets_b171 N hN (Mo_sets_h171 N v3 v5 v6 v7 n) ((n + 1 : Nat) : Int) s0 v3 v5 v6 v7 v8 v9 v10 v11 gs0 (fun s0 v8 v9 v10 v11 h_s0 h_v9 h_v10 h_v11 g_s0 q => t_Mo_sets_h171 N hN  v3 v5 v6 v7 gs0  h_v3 h_v6 h_v7   n s0 v8 v9 v10 v11 h_s0 h_v9 h_v10 h_v11 g_s0 (by omega)) h_s0 h_v3 h_v6 h_v7 h_v9 h_v10 h_v11 g_s0 hm
theorem t_Mo_sets_b153 (N : Nat) (hN : 50000000 ≤ N) (kh69 : zSt → Int32 → Int32 → Int32 → Int32 → Option (Int32 × zSt)) (m69 : Int) (s0 : zSt) (v1 : Int32) (v2 : Int32) (v3 : Int32) (v4 : Int32) (v5 : Int32) (v6 : Int32) (v7 : Int32) (v8 : Int32) (gs0 : zSt) (hkh69 : ∀ (s0 : zSt) (v5 : Int32) (v6 : Int32) (v7 : Int32) (v8 : Int32), I_Mo s0 → (0 : Int) ≤ (v6).toInt ∧ (v6).toInt ≤ 2047 → (0 : Int) ≤ (v7).toInt ∧ (v7).toInt ≤ 2047 → (0 : Int) ≤ (v8).toInt ∧ (v8).toInt ≤ 2048 → Fr [] [49] s0 gs0 → 2049 - (v8).toInt ≤ m69 - 1 → zok (kh69 s0 v5 v6 v7 v8) (fun z => True ∧ I_Mo z.2 ∧ Fr [] [49] z.2 gs0)) (h_s0 : I_Mo s0) (h_v1 : (0 : Int) ≤ (v1).toInt ∧ (v1).toInt ≤ 95) (h_v2 : (0 : Int) ≤ (v2).toInt ∧ (v2).toInt ≤ 20) (h_v3 : (0 : Int) ≤ (v3).toInt ∧ (v3).toInt ≤ 5) (h_v6 : (0 : Int) ≤ (v6).toInt ∧ (v6).toInt ≤ 2047) (h_v7 : (0 : Int) ≤ (v7).toInt ∧ (v7).toInt ≤ 2047) (h_v8 : (0 : Int) ≤ (v8).toInt ∧ (v8).toInt ≤ 2047) (g_s0 : Fr [] [49] s0 gs0) (hm69 : 2049 - (v8).toInt ≤ m69) : zok (Mo_sets_b153 N kh69 s0 v1 v2 v3 v4 v5 v6 v7 v8) (fun z => True ∧ I_Mo z.2 ∧ Fr [] [49] z.2 gs0) := by
  rw [Mo_sets_b153]
  have q1 := li_1
  have q2 := tadd v8 (1 : Int32) (by omega) (by omega)
  exact hkh69 _ _ _ _ _ h_s0 (show (0 : Int) ≤ (v6).toInt ∧ (v6).toInt ≤ 2047 from ⟨by omega, by omega⟩) (show (0 : Int) ≤ (v7).toInt ∧ (v7).toInt ≤ 2047 from ⟨by omega, by omega⟩) (show (0 : Int) ≤ ((v8 + (1 : Int32))).toInt ∧ ((v8 + (1 : Int32))).toInt ≤ 2048 from ⟨by omega, by omega⟩) g_s0 (show 2049 - ((v8 + (1 : Int32))).toInt ≤ m69 - 1 by omega)
theorem t_Mo_sets_b122 (N : Nat) (hN : 50000000 ≤ N) (kh69 : zSt → Int32 → Int32 → Int32 → Int32 → Option (Int32 × zSt)) (m69 : Int) (kh86 : zSt → Int32 → Int32 → Option (Int32 × zSt)) (m86 : Int) (s0 : zSt) (v1 : Int32) (v2 : Int32) (v3 : Int32) (v4 : Int32) (v5 : Int32) (v6 : Int32) (v7 : Int32) (v8 : Int32) (v9 : Int32) (v10 : Int32) (gs0 : zSt) (hkh69 : ∀ (s0 : zSt) (v5 : Int32) (v6 : Int32) (v7 : Int32) (v8 : Int32), I_Mo s0 → (0 : Int) ≤ (v6).toInt ∧ (v6).toInt ≤ 2047 → (0 : Int) ≤ (v7).toInt ∧ (v7).toInt ≤ 2047 → (0 : Int) ≤ (v8).toInt ∧ (v8).toInt ≤ 2048 → Fr [] [49] s0 gs0 → 2049 - (v8).toInt ≤ m69 - 1 → zok (kh69 s0 v5 v6 v7 v8) (fun z => True ∧ I_Mo z.2 ∧ Fr [] [49] z.2 gs0)) (hkh86 : ∀ (s0 : zSt) (v9 : Int32) (v10 : Int32), I_Mo s0 → (0 : Int) ≤ (v9).toInt ∧ (v9).toInt ≤ 1 → (0 : Int) ≤ (v10).toInt ∧ (v10).toInt ≤ 100 → Fr [] [49] s0 gs0 → 101 - (v10).toInt ≤ m86 - 1 → zok (kh86 s0 v9 v10) (fun z => True ∧ I_Mo z.2 ∧ Fr [] [49] z.2 gs0)) (h_s0 : I_Mo s0) (h_v1 : (0 : Int) ≤ (v1).toInt ∧ (v1).toInt ≤ 95) (h_v2 : (0 : Int) ≤ (v2).toInt ∧ (v2).toInt ≤ 20) (h_v3 : (0 : Int) ≤ (v3).toInt ∧ (v3).toInt ≤ 5) (h_v6 : (0 : Int) ≤ (v6).toInt ∧ (v6).toInt ≤ 2047) (h_v7 : (0 : Int) ≤ (v7).toInt ∧ (v7).toInt ≤ 2047) (h_v8 : (0 : Int) ≤ (v8).toInt ∧ (v8).toInt ≤ 2047) (h_v9 : (0 : Int) ≤ (v9).toInt ∧ (v9).toInt ≤ 1) (h_v10 : (0 : Int) ≤ (v10).toInt ∧ (v10).toInt ≤ 99) (g_s0 : Fr [] [49] s0 gs0) (hm69 : 2049 - (v8).toInt ≤ m69) (hm86 : 101 - (v10).toInt ≤ m86) : zok (Mo_sets_b122 N kh69 kh86 s0 v1 v2 v3 v4 v5 v6 v7 v8 v9 v10) (fun z => True ∧ I_Mo z.2 ∧ Fr [] [49] z.2 gs0) := by
  rw [Mo_sets_b122]
  have q1 := li_1
  have q2 := tadd v10 (1 : Int32) (by omega) (by omega)
  exact hkh86 _ _ _ h_s0 (show (0 : Int) ≤ (v9).toInt ∧ (v9).toInt ≤ 1 from ⟨by omega, by omega⟩) (show (0 : Int) ≤ ((v10 + (1 : Int32))).toInt ∧ ((v10 + (1 : Int32))).toInt ≤ 100 from ⟨by omega, by omega⟩) g_s0 (show 101 - ((v10 + (1 : Int32))).toInt ≤ m86 - 1 by omega)
theorem t_Mo_sets_b86 (N : Nat) (hN : 50000000 ≤ N) (kh69 : zSt → Int32 → Int32 → Int32 → Int32 → Option (Int32 × zSt)) (m69 : Int) (kh86 : zSt → Int32 → Int32 → Option (Int32 × zSt)) (m86 : Int) (s0 : zSt) (v1 : Int32) (v2 : Int32) (v3 : Int32) (v4 : Int32) (v5 : Int32) (v6 : Int32) (v7 : Int32) (v8 : Int32) (v9 : Int32) (v10 : Int32) (gs0 : zSt) (hkh69 : ∀ (s0 : zSt) (v5 : Int32) (v6 : Int32) (v7 : Int32) (v8 : Int32), I_Mo s0 → (0 : Int) ≤ (v6).toInt ∧ (v6).toInt ≤ 2047 → (0 : Int) ≤ (v7).toInt ∧ (v7).toInt ≤ 2047 → (0 : Int) ≤ (v8).toInt ∧ (v8).toInt ≤ 2048 → Fr [] [49] s0 gs0 → 2049 - (v8).toInt ≤ m69 - 1 → zok (kh69 s0 v5 v6 v7 v8) (fun z => True ∧ I_Mo z.2 ∧ Fr [] [49] z.2 gs0)) (hkh86 : ∀ (s0 : zSt) (v9 : Int32) (v10 : Int32), I_Mo s0 → (0 : Int) ≤ (v9).toInt ∧ (v9).toInt ≤ 1 → (0 : Int) ≤ (v10).toInt ∧ (v10).toInt ≤ 100 → Fr [] [49] s0 gs0 → 101 - (v10).toInt ≤ m86 - 1 → zok (kh86 s0 v9 v10) (fun z => True ∧ I_Mo z.2 ∧ Fr [] [49] z.2 gs0)) (h_s0 : I_Mo s0) (h_v1 : (0 : Int) ≤ (v1).toInt ∧ (v1).toInt ≤ 95) (h_v2 : (0 : Int) ≤ (v2).toInt ∧ (v2).toInt ≤ 20) (h_v3 : (0 : Int) ≤ (v3).toInt ∧ (v3).toInt ≤ 5) (h_v6 : (0 : Int) ≤ (v6).toInt ∧ (v6).toInt ≤ 2047) (h_v7 : (0 : Int) ≤ (v7).toInt ∧ (v7).toInt ≤ 2047) (h_v8 : (0 : Int) ≤ (v8).toInt ∧ (v8).toInt ≤ 2047) (h_v9 : (0 : Int) ≤ (v9).toInt ∧ (v9).toInt ≤ 1) (h_v10 : (0 : Int) ≤ (v10).toInt ∧ (v10).toInt ≤ 100) (g_s0 : Fr [] [49] s0 gs0) (hm69 : 2049 - (v8).toInt ≤ m69) (hm86 : 101 - (v10).toInt ≤ m86) : zok (Mo_sets_b86 N kh69 kh86 s0 v1 v2 v3 v4 v5 v6 v7 v8 v9 v10) (fun z => True ∧ I_Mo z.2 ∧ Fr [] [49] z.2 gs0) := by
  rw [Mo_sets_b86]
  have q2 := li_100
  refine zok_ite (fun c1 => ?_) (fun c1 => ?_)
  · have q3 : ((100 : Int32)).toInt ≤ (v10).toInt := tle c1
    have q5 := li_0
    refine zok_ite (fun c4 => ?_) (fun c4 => ?_)
    · have q6 : (v9).toInt = ((0 : Int32)).toInt := teq c4
      exact t_Mo_sets_b153 N hN kh69 m69 _ _ _ _ _ _ _ _ _ gs0 hkh69 h_s0 (show (0 : Int) ≤ (v1).toInt ∧ (v1).toInt ≤ 95 from ⟨by omega, by omega⟩) (show (0 : Int) ≤ (v2).toInt ∧ (v2).toInt ≤ 20 from ⟨by omega, by omega⟩) (show (0 : Int) ≤ (v3).toInt ∧ (v3).toInt ≤ 5 from ⟨by omega, by omega⟩) (show (0 : Int) ≤ (v6).toInt ∧ (v6).toInt ≤ 2047 from ⟨by omega, by omega⟩) (show (0 : Int) ≤ (v7).toInt ∧ (v7).toInt ≤ 2047 from ⟨by omega, by omega⟩) (show (0 : Int) ≤ (v8).toInt ∧ (v8).toInt ≤ 2047 from ⟨by omega, by omega⟩) g_s0 (show 2049 - (v8).toInt ≤ m69 from by omega)
    · have q7 : (v9).toInt ≠ ((0 : Int32)).toInt := tneq c4
      have q8 := tandr v6 v8 (by omega)
      have q9 := tor v7 v8 11 (by decide) (by omega) (by omega) (by omega) (by omega)
      exact t_Mo_sets_b153 N hN kh69 m69 _ _ _ _ _ _ _ _ _ gs0 hkh69 h_s0 (show (0 : Int) ≤ (v1).toInt ∧ (v1).toInt ≤ 95 from ⟨by omega, by omega⟩) (show (0 : Int) ≤ (v2).toInt ∧ (v2).toInt ≤ 20 from ⟨by omega, by omega⟩) (show (0 : Int) ≤ (v3).toInt ∧ (v3).toInt ≤ 5 from ⟨by omega, by omega⟩) (show (0 : Int) ≤ ((v6 &&& v8)).toInt ∧ ((v6 &&& v8)).toInt ≤ 2047 from ⟨by omega, by omega⟩) (show (0 : Int) ≤ ((v7 ||| v8)).toInt ∧ ((v7 ||| v8)).toInt ≤ 2047 from ⟨by omega, by omega⟩) (show (0 : Int) ≤ (v8).toInt ∧ (v8).toInt ≤ 2047 from ⟨by omega, by omega⟩) g_s0 (show 2049 - (v8).toInt ≤ m69 from by omega)
  · have q10 : ((100 : Int32)).toInt > (v10).toInt := tnle c1
    refine zok_bind (t_Mo_areSo N hN s0 v8 v10 v1 v2 v4 h_s0 (show (0 : Int) ≤ (v8).toInt ∧ (v8).toInt ≤ 2047 from ⟨by omega, by omega⟩) (show (0 : Int) ≤ (v10).toInt ∧ (v10).toInt ≤ 99 from ⟨by omega, by omega⟩) (show (0 : Int) ≤ (v1).toInt ∧ (v1).toInt ≤ 95 from ⟨by omega, by omega⟩) (show (0 : Int) ≤ (v2).toInt ∧ (v2).toInt ≤ 20 from ⟨by omega, by omega⟩)) (fun z3 hz3 => ?_)
    have h_z3 := hz3
    have q12 := li_0
    refine zok_ite (fun c11 => ?_) (fun c11 => ?_)
    · have q13 : (z3).toInt = ((0 : Int32)).toInt := teq c11
      exact t_Mo_sets_b122 N hN kh69 m69 kh86 m86 _ _ _ _ _ _ _ _ _ _ _ gs0 hkh69 hkh86 h_s0 (show (0 : Int) ≤ (v1).toInt ∧ (v1).toInt ≤ 95 from ⟨by omega, by omega⟩) (show (0 : Int) ≤ (v2).toInt ∧ (v2).toInt ≤ 20 from ⟨by omega, by omega⟩) (show (0 : Int) ≤ (v3).toInt ∧ (v3).toInt ≤ 5 from ⟨by omega, by omega⟩) (show (0 : Int) ≤ (v6).toInt ∧ (v6).toInt ≤ 2047 from ⟨by omega, by omega⟩) (show (0 : Int) ≤ (v7).toInt ∧ (v7).toInt ≤ 2047 from ⟨by omega, by omega⟩) (show (0 : Int) ≤ (v8).toInt ∧ (v8).toInt ≤ 2047 from ⟨by omega, by omega⟩) (show (0 : Int) ≤ (v9).toInt ∧ (v9).toInt ≤ 1 from ⟨by omega, by omega⟩) (show (0 : Int) ≤ (v10).toInt ∧ (v10).toInt ≤ 99 from ⟨by omega, by omega⟩) g_s0 (show 2049 - (v8).toInt ≤ m69 from by omega) (show 101 - (v10).toInt ≤ m86 from by omega)
    · have q14 : (z3).toInt ≠ ((0 : Int32)).toInt := tneq c11
      refine zok_ck (show vp_in v10 100 from vin (by omega) (by omega)) ?_
      have q15 := li_1
      exact t_Mo_sets_b122 N hN kh69 m69 kh86 m86 _ _ _ _ _ _ _ _ _ _ _ gs0 hkh69 hkh86 (IS.sA 49 (upd (zA s0 49) (Int32.toNatClampNeg v10) (1 : Int32)) h_s0 (show ∀ i, (0 : Int) ≤ ((upd (zA s0 49) (Int32.toNatClampNeg v10) (1 : Int32)) i).toInt ∧ ((upd (zA s0 49) (Int32.toNatClampNeg v10) (1 : Int32)) i).toInt ≤ 1 from (rgu (fun i => rgm ((h_s0).2 49 i) (by decide) (by decide)) ⟨by omega, by omega⟩))) (show (0 : Int) ≤ (v1).toInt ∧ (v1).toInt ≤ 95 from ⟨by omega, by omega⟩) (show (0 : Int) ≤ (v2).toInt ∧ (v2).toInt ≤ 20 from ⟨by omega, by omega⟩) (show (0 : Int) ≤ (v3).toInt ∧ (v3).toInt ≤ 5 from ⟨by omega, by omega⟩) (show (0 : Int) ≤ (v6).toInt ∧ (v6).toInt ≤ 2047 from ⟨by omega, by omega⟩) (show (0 : Int) ≤ (v7).toInt ∧ (v7).toInt ≤ 2047 from ⟨by omega, by omega⟩) (show (0 : Int) ≤ (v8).toInt ∧ (v8).toInt ≤ 2047 from ⟨by omega, by omega⟩) (show (0 : Int) ≤ ((1 : Int32)).toInt ∧ ((1 : Int32)).toInt ≤ 1 from ⟨by omega, by omega⟩) (show (0 : Int) ≤ (v10).toInt ∧ (v10).toInt ≤ 99 from ⟨by omega, by omega⟩) (Fr.sA g_s0 rfl) (show 2049 - (v8).toInt ≤ m69 from by omega) (show 101 - (v10).toInt ≤ m86 from by omega)
theorem t_Mo_sets_h86 (N : Nat) (hN : 50000000 ≤ N) (kh69 : zSt → Int32 → Int32 → Int32 → Int32 → Option (Int32 × zSt)) (m69 : Int) (v1 : Int32) (v2 : Int32) (v3 : Int32) (v4 : Int32) (v5 : Int32) (v6 : Int32) (v7 : Int32) (v8 : Int32) (gs0 : zSt) (hkh69 : ∀ (s0 : zSt) (v5 : Int32) (v6 : Int32) (v7 : Int32) (v8 : Int32), I_Mo s0 → (0 : Int) ≤ (v6).toInt ∧ (v6).toInt ≤ 2047 → (0 : Int) ≤ (v7).toInt ∧ (v7).toInt ≤ 2047 → (0 : Int) ≤ (v8).toInt ∧ (v8).toInt ≤ 2048 → Fr [] [49] s0 gs0 → 2049 - (v8).toInt ≤ m69 - 1 → zok (kh69 s0 v5 v6 v7 v8) (fun z => True ∧ I_Mo z.2 ∧ Fr [] [49] z.2 gs0)) (h_v1 : (0 : Int) ≤ (v1).toInt ∧ (v1).toInt ≤ 95) (h_v2 : (0 : Int) ≤ (v2).toInt ∧ (v2).toInt ≤ 20) (h_v3 : (0 : Int) ≤ (v3).toInt ∧ (v3).toInt ≤ 5) (h_v6 : (0 : Int) ≤ (v6).toInt ∧ (v6).toInt ≤ 2047) (h_v7 : (0 : Int) ≤ (v7).toInt ∧ (v7).toInt ≤ 2047) (h_v8 : (0 : Int) ≤ (v8).toInt ∧ (v8).toInt ≤ 2047) (hm69 : 2049 - (v8).toInt ≤ m69) : ∀ (n : Nat) (s0 : zSt) (v9 : Int32) (v10 : Int32), I_Mo s0 → (0 : Int) ≤ (v9).toInt ∧ (v9).toInt ≤ 1 → (0 : Int) ≤ (v10).toInt ∧ (v10).toInt ≤ 100 → Fr [] [49] s0 gs0 → 101 - (v10).toInt ≤ (n : Int) → zok (Mo_sets_h86 N kh69 v1 v2 v3 v4 v5 v6 v7 v8 n s0 v9 v10) (fun z => True ∧ I_Mo z.2 ∧ Fr [] [49] z.2 gs0)
  | 0, s0, v9, v10, h_s0, h_v9, h_v10, g_s0, hm => absurd hm (by omega)
  | n + 1, s0, v9, v10, h_s0, h_v9, h_v10, g_s0, hm => by
    rw [Mo_sets_h86_s]
    exact t_Mo_sets_b86 N hN kh69 m69 (Mo_sets_h86 N kh69 v1 v2 v3 v4 v5 v6 v7 v8 n) ((n + 1 : Nat) : Int) s0 v1 v2 v3 v4 v5 v6 v7 v8 v9 v10 gs0 hkh69 (fun s0 v9 v10 h_s0 h_v9 h_v10 g_s0 q => t_Mo_sets_h86 N hN kh69 m69 v1 v2 v3 v4 v5 v6 v7 v8 gs0 hkh69 h_v1 h_v2 h_v3 h_v6 h_v7 h_v8  hm69 n s0 v9 v10 h_s0 h_v9 h_v10 g_s0 (by omega)) h_s0 h_v1 h_v2 h_v3 h_v6 h_v7 h_v8 h_v9 h_v10 g_s0 hm69 hm
theorem t_Mo_sets_b69 (N : Nat) (hN : 50000000 ≤ N) (kh69 : zSt → Int32 → Int32 → Int32 → Int32 → Option (Int32 × zSt)) (m69 : Int) (s0 : zSt) (v1 : Int32) (v2 : Int32) (v3 : Int32) (v4 : Int32) (v5 : Int32) (v6 : Int32) (v7 : Int32) (v8 : Int32) (gs0 : zSt) (hkh69 : ∀ (s0 : zSt) (v5 : Int32) (v6 : Int32) (v7 : Int32) (v8 : Int32), I_Mo s0 → (0 : Int) ≤ (v6).toInt ∧ (v6).toInt ≤ 2047 → (0 : Int) ≤ (v7).toInt ∧ (v7).toInt ≤ 2047 → (0 : Int) ≤ (v8).toInt ∧ (v8).toInt ≤ 2048 → Fr [] [49] s0 gs0 → 2049 - (v8).toInt ≤ m69 - 1 → zok (kh69 s0 v5 v6 v7 v8) (fun z => True ∧ I_Mo z.2 ∧ Fr [] [49] z.2 gs0)) (h_s0 : I_Mo s0) (h_v1 : (0 : Int) ≤ (v1).toInt ∧ (v1).toInt ≤ 95) (h_v2 : (0 : Int) ≤ (v2).toInt ∧ (v2).toInt ≤ 20) (h_v3 : (0 : Int) ≤ (v3).toInt ∧ (v3).toInt ≤ 5) (h_v6 : (0 : Int) ≤ (v6).toInt ∧ (v6).toInt ≤ 2047) (h_v7 : (0 : Int) ≤ (v7).toInt ∧ (v7).toInt ≤ 2047) (h_v8 : (0 : Int) ≤ (v8).toInt ∧ (v8).toInt ≤ 2048) (g_s0 : Fr [] [49] s0 gs0) (hm69 : 2049 - (v8).toInt ≤ m69) : zok (Mo_sets_b69 N kh69 s0 v1 v2 v3 v4 v5 v6 v7 v8) (fun z => True ∧ I_Mo z.2 ∧ Fr [] [49] z.2 gs0) := by
  rw [Mo_sets_b69]
  have q2 : (0 : Int) ≤ ((zI s0 29)).toInt ∧ ((zI s0 29)).toInt ≤ 11 := (h_s0).1 29
  have q3 := tshl (zI s0 29) 11 (by decide) (by omega) (by omega)
  refine zok_ite (fun c1 => ?_) (fun c1 => ?_)
  · have q4 : (((1 : Int32) <<< ((zI s0 29) &&& (31 : Int32)))).toInt ≤ (v8).toInt := tle c1
    have q5 := li_m1
    have q6 := li_0
    exact t_Mo_sets_h171 N hN  _ _ _ _ gs0  (show (0 : Int) ≤ (v3).toInt ∧ (v3).toInt ≤ 5 from ⟨by omega, by omega⟩) (show (0 : Int) ≤ (v6).toInt ∧ (v6).toInt ≤ 2047 from ⟨by omega, by omega⟩) (show (0 : Int) ≤ (v7).toInt ∧ (v7).toInt ≤ 2047 from ⟨by omega, by omega⟩)  N _ _ _ _ _ h_s0 (show (-1 : Int) ≤ (((-1) : Int32)).toInt ∧ (((-1) : Int32)).toInt ≤ 99 from ⟨by omega, by omega⟩) (show (-1 : Int) ≤ (((-1) : Int32)).toInt ∧ (((-1) : Int32)).toInt ≤ 99 from ⟨by omega, by omega⟩) (show (0 : Int) ≤ ((0 : Int32)).toInt ∧ ((0 : Int32)).toInt ≤ 100 from ⟨by omega, by omega⟩) g_s0 (show 101 - ((0 : Int32)).toInt ≤ (N : Int) from by omega)
  · have q7 : (((1 : Int32) <<< ((zI s0 29) &&& (31 : Int32)))).toInt > (v8).toInt := tnle c1
    have q8 := li_0
    exact t_Mo_sets_h86 N hN kh69 m69 _ _ _ _ _ _ _ _ gs0 hkh69 (show (0 : Int) ≤ (v1).toInt ∧ (v1).toInt ≤ 95 from ⟨by omega, by omega⟩) (show (0 : Int) ≤ (v2).toInt ∧ (v2).toInt ≤ 20 from ⟨by omega, by omega⟩) (show (0 : Int) ≤ (v3).toInt ∧ (v3).toInt ≤ 5 from ⟨by omega, by omega⟩) (show (0 : Int) ≤ (v6).toInt ∧ (v6).toInt ≤ 2047 from ⟨by omega, by omega⟩) (show (0 : Int) ≤ (v7).toInt ∧ (v7).toInt ≤ 2047 from ⟨by omega, by omega⟩) (show (0 : Int) ≤ (v8).toInt ∧ (v8).toInt ≤ 2047 from ⟨by omega, by omega⟩) (show 2049 - (v8).toInt ≤ m69 from by omega) N _ _ _ h_s0 (show (0 : Int) ≤ ((0 : Int32)).toInt ∧ ((0 : Int32)).toInt ≤ 1 from ⟨by omega, by omega⟩) (show (0 : Int) ≤ ((0 : Int32)).toInt ∧ ((0 : Int32)).toInt ≤ 100 from ⟨by omega, by omega⟩) g_s0 (show 101 - ((0 : Int32)).toInt ≤ (N : Int) from by omega)
theorem t_Mo_sets_h69 (N : Nat) (hN : 50000000 ≤ N) (v1 : Int32) (v2 : Int32) (v3 : Int32) (v4 : Int32) (gs0 : zSt) (h_v1 : (0 : Int) ≤ (v1).toInt ∧ (v1).toInt ≤ 95) (h_v2 : (0 : Int) ≤ (v2).toInt ∧ (v2).toInt ≤ 20) (h_v3 : (0 : Int) ≤ (v3).toInt ∧ (v3).toInt ≤ 5) : ∀ (n : Nat) (s0 : zSt) (v5 : Int32) (v6 : Int32) (v7 : Int32) (v8 : Int32), I_Mo s0 → (0 : Int) ≤ (v6).toInt ∧ (v6).toInt ≤ 2047 → (0 : Int) ≤ (v7).toInt ∧ (v7).toInt ≤ 2047 → (0 : Int) ≤ (v8).toInt ∧ (v8).toInt ≤ 2048 → Fr [] [49] s0 gs0 → 2049 - (v8).toInt ≤ (n : Int) → zok (Mo_sets_h69 N v1 v2 v3 v4 n s0 v5 v6 v7 v8) (fun z => True ∧ I_Mo z.2 ∧ Fr [] [49] z.2 gs0)
  | 0, s0, v5, v6, v7, v8, h_s0, h_v6, h_v7, h_v8, g_s0, hm => absurd hm (by omega)
  | n + 1, s0, v5, v6, v7, v8, h_s0, h_v6, h_v7, h_v8, g_s0, hm => by
    rw [Mo_sets_h69_s]
    exact t_Mo_sets_b69 N hN (Mo_sets_h69 N v1 v2 v3 v4 n) ((n + 1 : Nat) : Int) s0 v1 v2 v3 v4 v5 v6 v7 v8 gs0 (fun s0 v5 v6 v7 v8 h_s0 h_v6 h_v7 h_v8 g_s0 q => t_Mo_sets_h69 N hN  v1 v2 v3 v4 gs0  h_v1 h_v2 h_v3   n s0 v5 v6 v7 v8 h_s0 h_v6 h_v7 h_v8 g_s0 (by omega)) h_s0 h_v1 h_v2 h_v3 h_v6 h_v7 h_v8 g_s0 hm
theorem t_Mo_sets_b45 (N : Nat) (hN : 50000000 ≤ N) (kh45 : zSt → Int32 → Option (Int32 × zSt)) (m45 : Int) (s0 : zSt) (v1 : Int32) (v2 : Int32) (v3 : Int32) (v4 : Int32) (v5 : Int32) (v6 : Int32) (v7 : Int32) (v8 : Int32) (gs0 : zSt) (hkh45 : ∀ (s0 : zSt) (v8 : Int32), I_Mo s0 → (0 : Int) ≤ (v8).toInt ∧ (v8).toInt ≤ 100 → Fr [] [49] s0 gs0 → 101 - (v8).toInt ≤ m45 - 1 → zok (kh45 s0 v8) (fun z => True ∧ I_Mo z.2 ∧ Fr [] [49] z.2 gs0)) (h_s0 : I_Mo s0) (h_v1 : (0 : Int) ≤ (v1).toInt ∧ (v1).toInt ≤ 95) (h_v2 : (0 : Int) ≤ (v2).toInt ∧ (v2).toInt ≤ 20) (h_v3 : (0 : Int) ≤ (v3).toInt ∧ (v3).toInt ≤ 5) (h_v5 : (0 : Int) ≤ (v5).toInt ∧ (v5).toInt ≤ 0) (h_v6 : (0 : Int) ≤ (v6).toInt ∧ (v6).toInt ≤ 2047) (h_v7 : (0 : Int) ≤ (v7).toInt ∧ (v7).toInt ≤ 0) (h_v8 : (0 : Int) ≤ (v8).toInt ∧ (v8).toInt ≤ 100) (g_s0 : Fr [] [49] s0 gs0) (hm45 : 101 - (v8).toInt ≤ m45) : zok (Mo_sets_b45 N kh45 s0 v1 v2 v3 v4 v5 v6 v7 v8) (fun z => True ∧ I_Mo z.2 ∧ Fr [] [49] z.2 gs0) := by
  rw [Mo_sets_b45]
  have q2 := li_100
  refine zok_ite (fun c1 => ?_) (fun c1 => ?_)
  · have q3 : ((100 : Int32)).toInt ≤ (v8).toInt := tle c1
    have q4 := li_0
    exact t_Mo_sets_h69 N hN  _ _ _ _ gs0  (show (0 : Int) ≤ (v1).toInt ∧ (v1).toInt ≤ 95 from ⟨by omega, by omega⟩) (show (0 : Int) ≤ (v2).toInt ∧ (v2).toInt ≤ 20 from ⟨by omega, by omega⟩) (show (0 : Int) ≤ (v3).toInt ∧ (v3).toInt ≤ 5 from ⟨by omega, by omega⟩)  N _ _ _ _ _ h_s0 (show (0 : Int) ≤ (v6).toInt ∧ (v6).toInt ≤ 2047 from ⟨by omega, by omega⟩) (show (0 : Int) ≤ (v7).toInt ∧ (v7).toInt ≤ 2047 from ⟨by omega, by omega⟩) (show (0 : Int) ≤ ((0 : Int32)).toInt ∧ ((0 : Int32)).toInt ≤ 2048 from ⟨by omega, by omega⟩) g_s0 (show 2049 - ((0 : Int32)).toInt ≤ (N : Int) from by omega)
  · have q5 : ((100 : Int32)).toInt > (v8).toInt := tnle c1
    refine zok_ck (show vp_in v8 100 from vin (by omega) (by omega)) ?_
    have q6 := li_0
    have q7 := li_1
    have q8 := tadd v8 (1 : Int32) (by omega) (by omega)
    exact hkh45 _ _ (IS.sA 49 (upd (zA s0 49) (Int32.toNatClampNeg v8) (0 : Int32)) h_s0 (show ∀ i, (0 : Int) ≤ ((upd (zA s0 49) (Int32.toNatClampNeg v8) (0 : Int32)) i).toInt ∧ ((upd (zA s0 49) (Int32.toNatClampNeg v8) (0 : Int32)) i).toInt ≤ 1 from (rgu (fun i => rgm ((h_s0).2 49 i) (by decide) (by decide)) ⟨by omega, by omega⟩))) (show (0 : Int) ≤ ((v8 + (1 : Int32))).toInt ∧ ((v8 + (1 : Int32))).toInt ≤ 100 from ⟨by omega, by omega⟩) (Fr.sA g_s0 rfl) (show 101 - ((v8 + (1 : Int32))).toInt ≤ m45 - 1 by omega)
theorem t_Mo_sets_h45 (N : Nat) (hN : 50000000 ≤ N) (v1 : Int32) (v2 : Int32) (v3 : Int32) (v4 : Int32) (v5 : Int32) (v6 : Int32) (v7 : Int32) (gs0 : zSt) (h_v1 : (0 : Int) ≤ (v1).toInt ∧ (v1).toInt ≤ 95) (h_v2 : (0 : Int) ≤ (v2).toInt ∧ (v2).toInt ≤ 20) (h_v3 : (0 : Int) ≤ (v3).toInt ∧ (v3).toInt ≤ 5) (h_v5 : (0 : Int) ≤ (v5).toInt ∧ (v5).toInt ≤ 0) (h_v6 : (0 : Int) ≤ (v6).toInt ∧ (v6).toInt ≤ 2047) (h_v7 : (0 : Int) ≤ (v7).toInt ∧ (v7).toInt ≤ 0) : ∀ (n : Nat) (s0 : zSt) (v8 : Int32), I_Mo s0 → (0 : Int) ≤ (v8).toInt ∧ (v8).toInt ≤ 100 → Fr [] [49] s0 gs0 → 101 - (v8).toInt ≤ (n : Int) → zok (Mo_sets_h45 N v1 v2 v3 v4 v5 v6 v7 n s0 v8) (fun z => True ∧ I_Mo z.2 ∧ Fr [] [49] z.2 gs0)
  | 0, s0, v8, h_s0, h_v8, g_s0, hm => absurd hm (by omega)
  | n + 1, s0, v8, h_s0, h_v8, g_s0, hm => by
    rw [Mo_sets_h45_s]
    exact t_Mo_sets_b45 N hN (Mo_sets_h45 N v1 v2 v3 v4 v5 v6 v7 n) ((n + 1 : Nat) : Int) s0 v1 v2 v3 v4 v5 v6 v7 v8 gs0 (fun s0 v8 h_s0 h_v8 g_s0 q => t_Mo_sets_h45 N hN  v1 v2 v3 v4 v5 v6 v7 gs0  h_v1 h_v2 h_v3 h_v5 h_v6 h_v7   n s0 v8 h_s0 h_v8 g_s0 (by omega)) h_s0 h_v1 h_v2 h_v3 h_v5 h_v6 h_v7 h_v8 g_s0 hm
theorem t_Mo_sets_b0 (N : Nat) (hN : 50000000 ≤ N) (s0 : zSt) (v1 : Int32) (v2 : Int32) (v3 : Int32) (v4 : Int32) (gs0 : zSt) (h_s0 : I_Mo s0) (g_s0 : Fr [] [49] s0 gs0) : zok (Mo_sets_b0 N s0 v1 v2 v3 v4) (fun z => True ∧ I_Mo z.2 ∧ Fr [] [49] z.2 gs0) := by
  rw [Mo_sets_b0]
  rcases u_Mo_isQuarter N v1  with w1 | ⟨w1, w1_0, w1_1⟩ <;> rw [w1, zbs]
  · refine zok_t (by decide) ?_
    exact zok_some ⟨trivial, h_s0, g_s0⟩
  · have q2 := li_0
    have q3 := tr v1
    have q4 : ((0 : Int32)).toInt ≤ (v1).toInt := w1_0
    have q5 := li_95
    have q6 : (v1).toInt ≤ ((95 : Int32)).toInt := w1_1
    refine zok_f (by decide) ?_
    rcases u_Mo_isWind N v2  with w7 | ⟨w7, w7_0, w7_1⟩ <;> rw [w7, zbs]
    · refine zok_t (by decide) ?_
      exact zok_some ⟨trivial, h_s0, g_s0⟩
    · have q8 := tr v2
      have q9 : ((0 : Int32)).toInt ≤ (v2).toInt := w7_0
      have q10 := li_20
      have q11 : (v2).toInt ≤ ((20 : Int32)).toInt := w7_1
      refine zok_f (by decide) ?_
      have q12 := li_5
      rcases u_Mo_isIn N v3 (0 : Int32) (5 : Int32)  with w13 | ⟨w13, w13_0, w13_1⟩ <;> rw [w13, zbs]
      · refine zok_t (by decide) ?_
        exact zok_some ⟨trivial, h_s0, g_s0⟩
      · have q14 := tr v3
        have q15 : ((0 : Int32)).toInt ≤ (v3).toInt := w13_0
        have q16 : (v3).toInt ≤ ((5 : Int32)).toInt := w13_1
        refine zok_f (by decide) ?_
        have q17 : (0 : Int) ≤ ((zI s0 29)).toInt ∧ ((zI s0 29)).toInt ≤ 11 := (h_s0).1 29
        have q18 := tshl (zI s0 29) 11 (by decide) (by omega) (by omega)
        have q19 := li_1
        have q20 := tsub ((1 : Int32) <<< ((zI s0 29) &&& (31 : Int32))) (1 : Int32) (by omega) (by omega)
        exact t_Mo_sets_h45 N hN  _ _ _ _ _ _ _ gs0  (show (0 : Int) ≤ (v1).toInt ∧ (v1).toInt ≤ 95 from ⟨by omega, by omega⟩) (show (0 : Int) ≤ (v2).toInt ∧ (v2).toInt ≤ 20 from ⟨by omega, by omega⟩) (show (0 : Int) ≤ (v3).toInt ∧ (v3).toInt ≤ 5 from ⟨by omega, by omega⟩) (show (0 : Int) ≤ ((0 : Int32)).toInt ∧ ((0 : Int32)).toInt ≤ 0 from ⟨by omega, by omega⟩) (show (0 : Int) ≤ ((((1 : Int32) <<< ((zI s0 29) &&& (31 : Int32))) - (1 : Int32))).toInt ∧ ((((1 : Int32) <<< ((zI s0 29) &&& (31 : Int32))) - (1 : Int32))).toInt ≤ 2047 from ⟨by omega, by omega⟩) (show (0 : Int) ≤ ((0 : Int32)).toInt ∧ ((0 : Int32)).toInt ≤ 0 from ⟨by omega, by omega⟩)  N _ _ h_s0 (show (0 : Int) ≤ ((0 : Int32)).toInt ∧ ((0 : Int32)).toInt ≤ 100 from ⟨by omega, by omega⟩) g_s0 (show 101 - ((0 : Int32)).toInt ≤ (N : Int) from by omega)
theorem t_Mo_sets (N : Nat) (hN : 50000000 ≤ N) (s0 : zSt) (v1 : Int32) (v2 : Int32) (v3 : Int32) (v4 : Int32) (h_s0 : I_Mo s0) : zok (Mo_sets N s0 v1 v2 v3 v4) (fun z => True ∧ I_Mo z.2 ∧ Fr [] [49] z.2 s0) :=
  t_Mo_sets_b0 N hN s0 v1 v2 v3 v4 s0 h_s0 ⟨fun _ _ => rfl, fun _ _ => rfl⟩
theorem t_Mo_spring_b0 (N : Nat) (hN : 50000000 ≤ N) (s0 : zSt) (v1 : Int32) (v2 : Int32) (v3 : Int32) (v4 : Int32) (v5 : Int32) (gs0 : zSt) (h_s0 : I_Mo s0) (g_s0 : Fr [50, 51, 52, 53, 54, 55] [] s0 gs0) : zok (Mo_spring_b0 N s0 v1 v2 v3 v4 v5) (fun z => ((0 : Int) ≤ (z.1).toInt ∧ (z.1).toInt ≤ 1) ∧ I_Mo z.2 ∧ Fr [50, 51, 52, 53, 54, 55] [] z.2 gs0) := by
  rw [Mo_spring_b0]
  rcases u_Mo_isEar N s0 v1  with w1 | ⟨w1, w1_0, w1_1⟩ <;> rw [w1, zbs]
  · refine zok_t (by decide) ?_
    have q9 := li_0
    exact zok_some ⟨(show (0 : Int) ≤ ((0 : Int32)).toInt ∧ ((0 : Int32)).toInt ≤ 1 from ⟨by omega, by omega⟩), h_s0, g_s0⟩
  · have q2 := li_0
    have q3 := tr v1
    have q4 : ((0 : Int32)).toInt ≤ (v1).toInt := w1_0
    have q5 : (0 : Int) ≤ ((zI s0 32)).toInt ∧ ((zI s0 32)).toInt ≤ 4 := (h_s0).1 32
    have q6 := li_1
    have q7 := tsub (zI s0 32) (1 : Int32) (by omega) (by omega)
    have q8 : (v1).toInt ≤ (((zI s0 32) - (1 : Int32))).toInt := w1_1
    refine zok_f (by decide) ?_
    rcases u_Mo_isEar N s0 v3  with w10 | ⟨w10, w10_0, w10_1⟩ <;> rw [w10, zbs]
    · refine zok_t (by decide) ?_
      exact zok_some ⟨(show (0 : Int) ≤ ((0 : Int32)).toInt ∧ ((0 : Int32)).toInt ≤ 1 from ⟨by omega, by omega⟩), h_s0, g_s0⟩
    · have q11 := tr v3
      have q12 : ((0 : Int32)).toInt ≤ (v3).toInt := w10_0
      have q13 : (v3).toInt ≤ (((zI s0 32) - (1 : Int32))).toInt := w10_1
      refine zok_f (by decide) ?_
      refine zok_ite (fun c14 => ?_) (fun c14 => ?_)
      · have q15 : (v1).toInt = (v3).toInt := teq c14
        exact zok_some ⟨(show (0 : Int) ≤ ((0 : Int32)).toInt ∧ ((0 : Int32)).toInt ≤ 1 from ⟨by omega, by omega⟩), h_s0, g_s0⟩
      · have q16 : (v1).toInt ≠ (v3).toInt := tneq c14
        rcases u_Mo_isPlace N v2  with w17 | ⟨w17, w17_0, w17_1⟩ <;> rw [w17, zbs]
        · refine zok_t (by decide) ?_
          exact zok_some ⟨(show (0 : Int) ≤ ((0 : Int32)).toInt ∧ ((0 : Int32)).toInt ≤ 1 from ⟨by omega, by omega⟩), h_s0, g_s0⟩
        · have q18 := tr v2
          have q19 : ((0 : Int32)).toInt ≤ (v2).toInt := w17_0
          have q20 := li_99
          have q21 : (v2).toInt ≤ ((99 : Int32)).toInt := w17_1
          refine zok_f (by decide) ?_
          rcases u_Mo_isPlace N v4  with w22 | ⟨w22, w22_0, w22_1⟩ <;> rw [w22, zbs]
          · refine zok_t (by decide) ?_
            exact zok_some ⟨(show (0 : Int) ≤ ((0 : Int32)).toInt ∧ ((0 : Int32)).toInt ≤ 1 from ⟨by omega, by omega⟩), h_s0, g_s0⟩
          · have q23 := tr v4
            have q24 : ((0 : Int32)).toInt ≤ (v4).toInt := w22_0
            have q25 : (v4).toInt ≤ ((99 : Int32)).toInt := w22_1
            refine zok_f (by decide) ?_
            rcases u_Mo_isQuarter N v5  with w26 | ⟨w26, w26_0, w26_1⟩ <;> rw [w26, zbs]
            · refine zok_t (by decide) ?_
              exact zok_some ⟨(show (0 : Int) ≤ ((0 : Int32)).toInt ∧ ((0 : Int32)).toInt ≤ 1 from ⟨by omega, by omega⟩), h_s0, g_s0⟩
            · have q27 := tr v5
              have q28 : ((0 : Int32)).toInt ≤ (v5).toInt := w26_0
              have q29 := li_95
              have q30 : (v5).toInt ≤ ((95 : Int32)).toInt := w26_1
              refine zok_f (by decide) ?_
              exact zok_some ⟨(show (0 : Int) ≤ ((1 : Int32)).toInt ∧ ((1 : Int32)).toInt ≤ 1 from ⟨by omega, by omega⟩), (IS.pI 55 v5 (IS.pI 54 v4 (IS.pI 53 v3 (IS.pI 52 v2 (IS.pI 51 v1 (IS.pI 50 (1 : Int32) h_s0 (show (0 : Int) ≤ ((1 : Int32)).toInt ∧ ((1 : Int32)).toInt ≤ 1 from ⟨by omega, by omega⟩)) (show (0 : Int) ≤ (v1).toInt ∧ (v1).toInt ≤ 3 from ⟨by omega, by omega⟩)) (tr _)) (show (0 : Int) ≤ (v3).toInt ∧ (v3).toInt ≤ 3 from ⟨by omega, by omega⟩)) (tr _)) (tr _)), (Fr.pI (Fr.pI (Fr.pI (Fr.pI (Fr.pI (Fr.pI g_s0 rfl) rfl) rfl) rfl) rfl) rfl)⟩
theorem t_Mo_spring (N : Nat) (hN : 50000000 ≤ N) (s0 : zSt) (v1 : Int32) (v2 : Int32) (v3 : Int32) (v4 : Int32) (v5 : Int32) (h_s0 : I_Mo s0) : zok (Mo_spring N s0 v1 v2 v3 v4 v5) (fun z => ((0 : Int) ≤ (z.1).toInt ∧ (z.1).toInt ≤ 1) ∧ I_Mo z.2 ∧ Fr [50, 51, 52, 53, 54, 55] [] z.2 s0) :=
  t_Mo_spring_b0 N hN s0 v1 v2 v3 v4 v5 s0 h_s0 ⟨fun _ _ => rfl, fun _ _ => rfl⟩
theorem t_Mo_isParted_b118 (N : Nat) (hN : 50000000 ≤ N) (kh16 : Int32 → Int32 → Option (Int32)) (m16 : Int) (s0 : zSt) (v1 : Int32) (v2 : Int32) (v3 : Int32) (v4 : Int32) (v5 : Int32) (v6 : Int32) (hkh16 : ∀ (v5 : Int32) (v6 : Int32), (0 : Int) ≤ (v5).toInt ∧ (v5).toInt ≤ 1 → (0 : Int) ≤ (v6).toInt ∧ (v6).toInt ≤ 40 → 41 - (v6).toInt ≤ m16 - 1 → zok (kh16 v5 v6) (fun z => ((0 : Int) ≤ (z).toInt ∧ (z).toInt ≤ 1))) (h_s0 : I_Mo s0) (h_s0_47 : (1 : Int) ≤ (zI s0 47).toInt ∧ (zI s0 47).toInt ≤ 40) (h_s0_50 : (1 : Int) ≤ (zI s0 50).toInt ∧ (zI s0 50).toInt ≤ 1) (h_v1 : (0 : Int) ≤ (v1).toInt ∧ (v1).toInt ≤ 2047) (h_v2 : (0 : Int) ≤ (v2).toInt ∧ (v2).toInt ≤ 20) (h_v4 : (0 : Int) ≤ (v4).toInt ∧ (v4).toInt ≤ 2047) (h_v5 : (0 : Int) ≤ (v5).toInt ∧ (v5).toInt ≤ 1) (h_v6 : (0 : Int) ≤ (v6).toInt ∧ (v6).toInt ≤ 39) (hm16 : 41 - (v6).toInt ≤ m16) : zok (Mo_isParted_b118 N kh16 s0 v1 v2 v3 v4 v5 v6) (fun z => ((0 : Int) ≤ (z).toInt ∧ (z).toInt ≤ 1)) := by
  rw [Mo_isParted_b118]
  have q1 := li_1
  have q2 := tadd v6 (1 : Int32) (by omega) (by omega)
  exact hkh16 _ _ (show (0 : Int) ≤ (v5).toInt ∧ (v5).toInt ≤ 1 from ⟨by omega, by omega⟩) (show (0 : Int) ≤ ((v6 + (1 : Int32))).toInt ∧ ((v6 + (1 : Int32))).toInt ≤ 40 from ⟨by omega, by omega⟩) (show 41 - ((v6 + (1 : Int32))).toInt ≤ m16 - 1 by omega)
theorem t_Mo_isParted_b16 (N : Nat) (hN : 50000000 ≤ N) (kh16 : Int32 → Int32 → Option (Int32)) (m16 : Int) (s0 : zSt) (v1 : Int32) (v2 : Int32) (v3 : Int32) (v4 : Int32) (v5 : Int32) (v6 : Int32) (hkh16 : ∀ (v5 : Int32) (v6 : Int32), (0 : Int) ≤ (v5).toInt ∧ (v5).toInt ≤ 1 → (0 : Int) ≤ (v6).toInt ∧ (v6).toInt ≤ 40 → 41 - (v6).toInt ≤ m16 - 1 → zok (kh16 v5 v6) (fun z => ((0 : Int) ≤ (z).toInt ∧ (z).toInt ≤ 1))) (h_s0 : I_Mo s0) (h_s0_50 : (1 : Int) ≤ (zI s0 50).toInt ∧ (zI s0 50).toInt ≤ 1) (h_v1 : (0 : Int) ≤ (v1).toInt ∧ (v1).toInt ≤ 2047) (h_v2 : (0 : Int) ≤ (v2).toInt ∧ (v2).toInt ≤ 20) (h_v4 : (0 : Int) ≤ (v4).toInt ∧ (v4).toInt ≤ 2047) (h_v5 : (0 : Int) ≤ (v5).toInt ∧ (v5).toInt ≤ 1) (h_v6 : (0 : Int) ≤ (v6).toInt ∧ (v6).toInt ≤ 40) (hm16 : 41 - (v6).toInt ≤ m16) : zok (Mo_isParted_b16 N kh16 s0 v1 v2 v3 v4 v5 v6) (fun z => ((0 : Int) ≤ (z).toInt ∧ (z).toInt ≤ 1)) := by
  rw [Mo_isParted_b16]
  have q2 : (0 : Int) ≤ ((zI s0 47)).toInt ∧ ((zI s0 47)).toInt ≤ 40 := (h_s0).1 47
  refine zok_ite (fun c1 => ?_) (fun c1 => ?_)
  · have q3 : ((zI s0 47)).toInt ≤ (v6).toInt := tle c1
    refine zok_cb (t01 (by omega) (by omega)) ?_
    exact zok_some (show (0 : Int) ≤ (v5).toInt ∧ (v5).toInt ≤ 1 from ⟨by omega, by omega⟩)
  · have q4 : ((zI s0 47)).toInt > (v6).toInt := tnle c1
    have q6 := li_0
    refine zok_ite (fun c5 => ?_) (fun c5 => ?_)
    · have q7 : (v5).toInt = ((0 : Int32)).toInt := teq c5
      refine zok_cb (t01 (by omega) (by omega)) ?_
      exact zok_some (show (0 : Int) ≤ (v5).toInt ∧ (v5).toInt ≤ 1 from ⟨by omega, by omega⟩)
    · have q8 : (v5).toInt ≠ ((0 : Int32)).toInt := tneq c5
      refine zok_bind (t_Mo_counts N hN s0 v6 (0 : Int32) v3 h_s0 (show (0 : Int) ≤ (v6).toInt ∧ (v6).toInt ≤ 39 from ⟨by omega, by omega⟩) (show (0 : Int) ≤ ((0 : Int32)).toInt ∧ ((0 : Int32)).toInt ≤ 1 from ⟨by omega, by omega⟩)) (fun z5 hz5 => ?_)
      have h_z5 := hz5
      refine zok_ite (fun c9 => ?_) (fun c9 => ?_)
      · have q10 : (z5).toInt = ((0 : Int32)).toInt := teq c9
        have q11 : (0 : Int) ≤ ((zI s0 50)).toInt ∧ ((zI s0 50)).toInt ≤ 1 := (h_s0).1 50
        exact t_Mo_isParted_b118 N hN kh16 m16 _ _ _ _ _ _ _  hkh16 h_s0 (show (1 : Int) ≤ ((zI s0 47)).toInt ∧ ((zI s0 47)).toInt ≤ 40 from ⟨by omega, by omega⟩) (show (1 : Int) ≤ ((zI s0 50)).toInt ∧ ((zI s0 50)).toInt ≤ 1 from ⟨by omega, by omega⟩) (show (0 : Int) ≤ (v1).toInt ∧ (v1).toInt ≤ 2047 from ⟨by omega, by omega⟩) (show (0 : Int) ≤ (v2).toInt ∧ (v2).toInt ≤ 20 from ⟨by omega, by omega⟩) (show (0 : Int) ≤ (v4).toInt ∧ (v4).toInt ≤ 2047 from ⟨by omega, by omega⟩) (show (0 : Int) ≤ (v5).toInt ∧ (v5).toInt ≤ 1 from ⟨by omega, by omega⟩) (show (0 : Int) ≤ (v6).toInt ∧ (v6).toInt ≤ 39 from ⟨by omega, by omega⟩) (show 41 - (v6).toInt ≤ m16 from by omega)
      · have q12 : (z5).toInt ≠ ((0 : Int32)).toInt := tneq c9
        refine zok_ck (show vp_in v6 40 from vin (by omega) (by omega)) ?_
        have q14 := tr ((zA s0 40) (Int32.toNatClampNeg v6))
        have q15 := tr (zI s0 55)
        refine zok_ite (fun c13 => ?_) (fun c13 => ?_)
        · have q16 : (((zA s0 40) (Int32.toNatClampNeg v6))).toInt = ((zI s0 55)).toInt := teq c13
          refine zok_ck (show vp_in v6 40 from vin (by omega) (by omega)) ?_
          have q18 : (0 : Int) ≤ (((zA s0 41) (Int32.toNatClampNeg v6))).toInt ∧ (((zA s0 41) (Int32.toNatClampNeg v6))).toInt ≤ 3 := (h_s0).2 41 _
          have q19 : (0 : Int) ≤ ((zI s0 51)).toInt ∧ ((zI s0 51)).toInt ≤ 3 := (h_s0).1 51
          refine zok_ite (fun c17 => ?_) (fun c17 => ?_)
          · have q20 : (((zA s0 41) (Int32.toNatClampNeg v6))).toInt = ((zI s0 51)).toInt := teq c17
            refine zok_bind (t_Mo_isSo N hN s0 v6 v1 (zI s0 52) v2 h_s0 (show (1 : Int) ≤ ((zI s0 47)).toInt ∧ ((zI s0 47)).toInt ≤ 40 from ⟨by omega, by omega⟩) (show (0 : Int) ≤ (v6).toInt ∧ (v6).toInt ≤ 39 from ⟨by omega, by omega⟩) (show (0 : Int) ≤ (v1).toInt ∧ (v1).toInt ≤ 2047 from ⟨by omega, by omega⟩) (show (0 : Int) ≤ (v2).toInt ∧ (v2).toInt ≤ 20 from ⟨by omega, by omega⟩)) (fun z16 hz16 => ?_)
            have h_z16 := hz16
            have q21 : (0 : Int) ≤ ((zI s0 50)).toInt ∧ ((zI s0 50)).toInt ≤ 1 := (h_s0).1 50
            exact t_Mo_isParted_b118 N hN kh16 m16 _ _ _ _ _ _ _  hkh16 h_s0 (show (1 : Int) ≤ ((zI s0 47)).toInt ∧ ((zI s0 47)).toInt ≤ 40 from ⟨by omega, by omega⟩) (show (1 : Int) ≤ ((zI s0 50)).toInt ∧ ((zI s0 50)).toInt ≤ 1 from ⟨by omega, by omega⟩) (show (0 : Int) ≤ (v1).toInt ∧ (v1).toInt ≤ 2047 from ⟨by omega, by omega⟩) (show (0 : Int) ≤ (v2).toInt ∧ (v2).toInt ≤ 20 from ⟨by omega, by omega⟩) (show (0 : Int) ≤ (v4).toInt ∧ (v4).toInt ≤ 2047 from ⟨by omega, by omega⟩) (show (0 : Int) ≤ (z16).toInt ∧ (z16).toInt ≤ 1 from ⟨by omega, by omega⟩) (show (0 : Int) ≤ (v6).toInt ∧ (v6).toInt ≤ 39 from ⟨by omega, by omega⟩) (show 41 - (v6).toInt ≤ m16 from by omega)
          · have q22 : (((zA s0 41) (Int32.toNatClampNeg v6))).toInt ≠ ((zI s0 51)).toInt := tneq c17
            refine zok_ck (show vp_in v6 40 from vin (by omega) (by omega)) ?_
            have q24 : (0 : Int) ≤ ((zI s0 53)).toInt ∧ ((zI s0 53)).toInt ≤ 3 := (h_s0).1 53
            refine zok_ite (fun c23 => ?_) (fun c23 => ?_)
            · have q25 : (((zA s0 41) (Int32.toNatClampNeg v6))).toInt = ((zI s0 53)).toInt := teq c23
              refine zok_bind (t_Mo_isSo N hN s0 v6 v4 (zI s0 54) v2 h_s0 (show (1 : Int) ≤ ((zI s0 47)).toInt ∧ ((zI s0 47)).toInt ≤ 40 from ⟨by omega, by omega⟩) (show (0 : Int) ≤ (v6).toInt ∧ (v6).toInt ≤ 39 from ⟨by omega, by omega⟩) (show (0 : Int) ≤ (v4).toInt ∧ (v4).toInt ≤ 2047 from ⟨by omega, by omega⟩) (show (0 : Int) ≤ (v2).toInt ∧ (v2).toInt ≤ 20 from ⟨by omega, by omega⟩)) (fun z14 hz14 => ?_)
              have h_z14 := hz14
              have q26 : (0 : Int) ≤ ((zI s0 50)).toInt ∧ ((zI s0 50)).toInt ≤ 1 := (h_s0).1 50
              exact t_Mo_isParted_b118 N hN kh16 m16 _ _ _ _ _ _ _  hkh16 h_s0 (show (1 : Int) ≤ ((zI s0 47)).toInt ∧ ((zI s0 47)).toInt ≤ 40 from ⟨by omega, by omega⟩) (show (1 : Int) ≤ ((zI s0 50)).toInt ∧ ((zI s0 50)).toInt ≤ 1 from ⟨by omega, by omega⟩) (show (0 : Int) ≤ (v1).toInt ∧ (v1).toInt ≤ 2047 from ⟨by omega, by omega⟩) (show (0 : Int) ≤ (v2).toInt ∧ (v2).toInt ≤ 20 from ⟨by omega, by omega⟩) (show (0 : Int) ≤ (v4).toInt ∧ (v4).toInt ≤ 2047 from ⟨by omega, by omega⟩) (show (0 : Int) ≤ (z14).toInt ∧ (z14).toInt ≤ 1 from ⟨by omega, by omega⟩) (show (0 : Int) ≤ (v6).toInt ∧ (v6).toInt ≤ 39 from ⟨by omega, by omega⟩) (show 41 - (v6).toInt ≤ m16 from by omega)
            · have q27 : (((zA s0 41) (Int32.toNatClampNeg v6))).toInt ≠ ((zI s0 53)).toInt := tneq c23
              have q28 : (0 : Int) ≤ ((zI s0 50)).toInt ∧ ((zI s0 50)).toInt ≤ 1 := (h_s0).1 50
              exact t_Mo_isParted_b118 N hN kh16 m16 _ _ _ _ _ _ _  hkh16 h_s0 (show (1 : Int) ≤ ((zI s0 47)).toInt ∧ ((zI s0 47)).toInt ≤ 40 from ⟨by omega, by omega⟩) (show (1 : Int) ≤ ((zI s0 50)).toInt ∧ ((zI s0 50)).toInt ≤ 1 from ⟨by omega, by omega⟩) (show (0 : Int) ≤ (v1).toInt ∧ (v1).toInt ≤ 2047 from ⟨by omega, by omega⟩) (show (0 : Int) ≤ (v2).toInt ∧ (v2).toInt ≤ 20 from ⟨by omega, by omega⟩) (show (0 : Int) ≤ (v4).toInt ∧ (v4).toInt ≤ 2047 from ⟨by omega, by omega⟩) (show (0 : Int) ≤ (v5).toInt ∧ (v5).toInt ≤ 1 from ⟨by omega, by omega⟩) (show (0 : Int) ≤ (v6).toInt ∧ (v6).toInt ≤ 39 from ⟨by omega, by omega⟩) (show 41 - (v6).toInt ≤ m16 from by omega)
        · have q29 : (((zA s0 40) (Int32.toNatClampNeg v6))).toInt ≠ ((zI s0 55)).toInt := tneq c13
          have q30 : (0 : Int) ≤ ((zI s0 50)).toInt ∧ ((zI s0 50)).toInt ≤ 1 := (h_s0).1 50
          exact t_Mo_isParted_b118 N hN kh16 m16 _ _ _ _ _ _ _  hkh16 h_s0 (show (1 : Int) ≤ ((zI s0 47)).toInt ∧ ((zI s0 47)).toInt ≤ 40 from ⟨by omega, by omega⟩) (show (1 : Int) ≤ ((zI s0 50)).toInt ∧ ((zI s0 50)).toInt ≤ 1 from ⟨by omega, by omega⟩) (show (0 : Int) ≤ (v1).toInt ∧ (v1).toInt ≤ 2047 from ⟨by omega, by omega⟩) (show (0 : Int) ≤ (v2).toInt ∧ (v2).toInt ≤ 20 from ⟨by omega, by omega⟩) (show (0 : Int) ≤ (v4).toInt ∧ (v4).toInt ≤ 2047 from ⟨by omega, by omega⟩) (show (0 : Int) ≤ (v5).toInt ∧ (v5).toInt ≤ 1 from ⟨by omega, by omega⟩) (show (0 : Int) ≤ (v6).toInt ∧ (v6).toInt ≤ 39 from ⟨by omega, by omega⟩) (show 41 - (v6).toInt ≤ m16 from by omega)
theorem t_Mo_isParted_h16 (N : Nat) (hN : 50000000 ≤ N) (s0 : zSt) (v1 : Int32) (v2 : Int32) (v3 : Int32) (v4 : Int32) (h_s0 : I_Mo s0) (h_s0_50 : (1 : Int) ≤ (zI s0 50).toInt ∧ (zI s0 50).toInt ≤ 1) (h_v1 : (0 : Int) ≤ (v1).toInt ∧ (v1).toInt ≤ 2047) (h_v2 : (0 : Int) ≤ (v2).toInt ∧ (v2).toInt ≤ 20) (h_v4 : (0 : Int) ≤ (v4).toInt ∧ (v4).toInt ≤ 2047) : ∀ (n : Nat) (v5 : Int32) (v6 : Int32), (0 : Int) ≤ (v5).toInt ∧ (v5).toInt ≤ 1 → (0 : Int) ≤ (v6).toInt ∧ (v6).toInt ≤ 40 → 41 - (v6).toInt ≤ (n : Int) → zok (Mo_isParted_h16 N s0 v1 v2 v3 v4 n v5 v6) (fun z => ((0 : Int) ≤ (z).toInt ∧ (z).toInt ≤ 1))
  | 0, v5, v6, h_v5, h_v6, hm => absurd hm (by omega)
  | n + 1, v5, v6, h_v5, h_v6, hm => by
    rw [Mo_isParted_h16_s]
    exact t_Mo_isParted_b16 N hN (Mo_isParted_h16 N s0 v1 v2 v3 v4 n) ((n + 1 : Nat) : Int) s0 v1 v2 v3 v4 v5 v6  (fun v5 v6 h_v5 h_v6 q => t_Mo_isParted_h16 N hN  s0 v1 v2 v3 v4   h_s0 h_s0_50 h_v1 h_v2 h_v4   n v5 v6 h_v5 h_v6 (by omega)) h_s0 h_s0_50 h_v1 h_v2 h_v4 h_v5 h_v6  hm
theorem t_Mo_isParted_b0 (N : Nat) (hN : 50000000 ≤ N) (s0 : zSt) (v1 : Int32) (v2 : Int32) (v3 : Int32) (h_s0 : I_Mo s0) (h_s0_50 : (1 : Int) ≤ (zI s0 50).toInt ∧ (zI s0 50).toInt ≤ 1) (h_v1 : (0 : Int) ≤ (v1).toInt ∧ (v1).toInt ≤ 2047) (h_v2 : (0 : Int) ≤ (v2).toInt ∧ (v2).toInt ≤ 20) : zok (Mo_isParted_b0 N s0 v1 v2 v3) (fun z => ((0 : Int) ≤ (z).toInt ∧ (z).toInt ≤ 1)) := by
  rw [Mo_isParted_b0]
  refine zok_bind (t_Mo_beastSet N hN s0 h_s0) (fun z1 hz1 => ?_)
  have h_z1 := hz1
  have q1 : (0 : Int) ≤ ((zI s0 50)).toInt ∧ ((zI s0 50)).toInt ≤ 1 := (h_s0).1 50
  have q2 := tandl z1 (v1 ^^^ ((-1) : Int32)) (by omega)
  have q3 := li_1
  have q4 := li_0
  exact t_Mo_isParted_h16 N hN  _ _ _ _ _   h_s0 (show (1 : Int) ≤ ((zI s0 50)).toInt ∧ ((zI s0 50)).toInt ≤ 1 from ⟨by omega, by omega⟩) (show (0 : Int) ≤ (v1).toInt ∧ (v1).toInt ≤ 2047 from ⟨by omega, by omega⟩) (show (0 : Int) ≤ (v2).toInt ∧ (v2).toInt ≤ 20 from ⟨by omega, by omega⟩) (show (0 : Int) ≤ ((z1 &&& (v1 ^^^ ((-1) : Int32)))).toInt ∧ ((z1 &&& (v1 ^^^ ((-1) : Int32)))).toInt ≤ 2047 from ⟨by omega, by omega⟩)  N _ _ (show (0 : Int) ≤ ((1 : Int32)).toInt ∧ ((1 : Int32)).toInt ≤ 1 from ⟨by omega, by omega⟩) (show (0 : Int) ≤ ((0 : Int32)).toInt ∧ ((0 : Int32)).toInt ≤ 40 from ⟨by omega, by omega⟩) (show 41 - ((0 : Int32)).toInt ≤ (N : Int) from by omega)
theorem t_Mo_isParted (N : Nat) (hN : 50000000 ≤ N) (s0 : zSt) (v1 : Int32) (v2 : Int32) (v3 : Int32) (h_s0 : I_Mo s0) (h_s0_50 : (1 : Int) ≤ (zI s0 50).toInt ∧ (zI s0 50).toInt ≤ 1) (h_v1 : (0 : Int) ≤ (v1).toInt ∧ (v1).toInt ≤ 2047) (h_v2 : (0 : Int) ≤ (v2).toInt ∧ (v2).toInt ≤ 20) : zok (Mo_isParted N s0 v1 v2 v3) (fun z => ((0 : Int) ≤ (z).toInt ∧ (z).toInt ≤ 1)) :=
  t_Mo_isParted_b0 N hN s0 v1 v2 v3  h_s0 h_s0_50 h_v1 h_v2 
theorem t_Mo_mixedOf_b94 (N : Nat) (hN : 50000000 ≤ N) (kh4 : Int32 → Int32 → Option (Int32)) (m4 : Int) (s0 : zSt) (v1 : Int32) (v3 : Int32) (t0 : Int32) (t1 : Int32) (hkh4 : ∀ (v2 : Int32) (v3 : Int32), (0 : Int) ≤ (v3).toInt ∧ (v3).toInt ≤ 3 → 4 - (v3).toInt ≤ m4 - 1 → zok (kh4 v2 v3) (fun z => True)) (h_s0 : I_Mo s0) (h_s0_28 : (1 : Int) ≤ (zI s0 28).toInt ∧ (zI s0 28).toInt ≤ 3) (h_s0_50 : (1 : Int) ≤ (zI s0 50).toInt ∧ (zI s0 50).toInt ≤ 1) (h_v1 : (0 : Int) ≤ (v1).toInt ∧ (v1).toInt ≤ 2047) (h_v3 : (0 : Int) ≤ (v3).toInt ∧ (v3).toInt ≤ 2) (hm4 : 4 - (v3).toInt ≤ m4) : zok (Mo_mixedOf_b94 N kh4 s0 v1 v3 t0 t1) (fun z => True) := by
  rw [Mo_mixedOf_b94]
  have q1 := li_1
  have q2 := tadd v3 (1 : Int32) (by omega) (by omega)
  exact hkh4 _ _ (show (0 : Int) ≤ ((v3 + (1 : Int32))).toInt ∧ ((v3 + (1 : Int32))).toInt ≤ 3 from ⟨by omega, by omega⟩) (show 4 - ((v3 + (1 : Int32))).toInt ≤ m4 - 1 by omega)
theorem t_Mo_mixedOf_b73 (N : Nat) (hN : 50000000 ≤ N) (kh4 : Int32 → Int32 → Option (Int32)) (m4 : Int) (kh21 : Int32 → Int32 → Int32 → Option (Int32)) (m21 : Int) (s0 : zSt) (v1 : Int32) (v2 : Int32) (v3 : Int32) (v4 : Int32) (v5 : Int32) (v6 : Int32) (hkh4 : ∀ (v2 : Int32) (v3 : Int32), (0 : Int) ≤ (v3).toInt ∧ (v3).toInt ≤ 3 → 4 - (v3).toInt ≤ m4 - 1 → zok (kh4 v2 v3) (fun z => True)) (hkh21 : ∀ (v4 : Int32) (v5 : Int32) (v6 : Int32), (0 : Int) ≤ (v6).toInt ∧ (v6).toInt ≤ 9 → 10 - (v6).toInt ≤ m21 - 1 → zok (kh21 v4 v5 v6) (fun z => True)) (h_s0 : I_Mo s0) (h_s0_28 : (1 : Int) ≤ (zI s0 28).toInt ∧ (zI s0 28).toInt ≤ 3) (h_s0_30 : (1 : Int) ≤ (zI s0 30).toInt ∧ (zI s0 30).toInt ≤ 9) (h_s0_50 : (1 : Int) ≤ (zI s0 50).toInt ∧ (zI s0 50).toInt ≤ 1) (h_v1 : (0 : Int) ≤ (v1).toInt ∧ (v1).toInt ≤ 2047) (h_v3 : (0 : Int) ≤ (v3).toInt ∧ (v3).toInt ≤ 2) (h_v6 : (0 : Int) ≤ (v6).toInt ∧ (v6).toInt ≤ 8) (hm4 : 4 - (v3).toInt ≤ m4) (hm21 : 10 - (v6).toInt ≤ m21) : zok (Mo_mixedOf_b73 N kh4 kh21 s0 v1 v2 v3 v4 v5 v6) (fun z => True) := by
  rw [Mo_mixedOf_b73]
  have q1 := li_1
  have q2 := tadd v6 (1 : Int32) (by omega) (by omega)
  exact hkh21 _ _ _ (show (0 : Int) ≤ ((v6 + (1 : Int32))).toInt ∧ ((v6 + (1 : Int32))).toInt ≤ 9 from ⟨by omega, by omega⟩) (show 10 - ((v6 + (1 : Int32))).toInt ≤ m21 - 1 by omega)
theorem t_Mo_mixedOf_b21 (N : Nat) (hN : 50000000 ≤ N) (kh4 : Int32 → Int32 → Option (Int32)) (m4 : Int) (kh21 : Int32 → Int32 → Int32 → Option (Int32)) (m21 : Int) (s0 : zSt) (v1 : Int32) (v2 : Int32) (v3 : Int32) (v4 : Int32) (v5 : Int32) (v6 : Int32) (hkh4 : ∀ (v2 : Int32) (v3 : Int32), (0 : Int) ≤ (v3).toInt ∧ (v3).toInt ≤ 3 → 4 - (v3).toInt ≤ m4 - 1 → zok (kh4 v2 v3) (fun z => True)) (hkh21 : ∀ (v4 : Int32) (v5 : Int32) (v6 : Int32), (0 : Int) ≤ (v6).toInt ∧ (v6).toInt ≤ 9 → 10 - (v6).toInt ≤ m21 - 1 → zok (kh21 v4 v5 v6) (fun z => True)) (h_s0 : I_Mo s0) (h_s0_28 : (1 : Int) ≤ (zI s0 28).toInt ∧ (zI s0 28).toInt ≤ 3) (h_s0_50 : (1 : Int) ≤ (zI s0 50).toInt ∧ (zI s0 50).toInt ≤ 1) (h_v1 : (0 : Int) ≤ (v1).toInt ∧ (v1).toInt ≤ 2047) (h_v3 : (0 : Int) ≤ (v3).toInt ∧ (v3).toInt ≤ 2) (h_v6 : (0 : Int) ≤ (v6).toInt ∧ (v6).toInt ≤ 9) (hm4 : 4 - (v3).toInt ≤ m4) (hm21 : 10 - (v6).toInt ≤ m21) : zok (Mo_mixedOf_b21 N kh4 kh21 s0 v1 v2 v3 v4 v5 v6) (fun z => True) := by
  rw [Mo_mixedOf_b21]
  have q2 : (0 : Int) ≤ ((zI s0 30)).toInt ∧ ((zI s0 30)).toInt ≤ 9 := (h_s0).1 30
  refine zok_ite (fun c1 => ?_) (fun c1 => ?_)
  · have q3 : ((zI s0 30)).toInt ≤ (v6).toInt := tle c1
    have q5 := tr v5
    have q6 := tr v4
    refine zok_ite (fun c4 => ?_) (fun c4 => ?_)
    · have q7 : (v5).toInt ≤ (v4).toInt := tle c4
      have q8 : (0 : Int) ≤ ((zI s0 28)).toInt ∧ ((zI s0 28)).toInt ≤ 3 := (h_s0).1 28
      have q9 : (0 : Int) ≤ ((zI s0 50)).toInt ∧ ((zI s0 50)).toInt ≤ 1 := (h_s0).1 50
      exact t_Mo_mixedOf_b94 N hN kh4 m4 _ _ _ _ _  hkh4 h_s0 (show (1 : Int) ≤ ((zI s0 28)).toInt ∧ ((zI s0 28)).toInt ≤ 3 from ⟨by omega, by omega⟩) (show (1 : Int) ≤ ((zI s0 50)).toInt ∧ ((zI s0 50)).toInt ≤ 1 from ⟨by omega, by omega⟩) (show (0 : Int) ≤ (v1).toInt ∧ (v1).toInt ≤ 2047 from ⟨by omega, by omega⟩) (show (0 : Int) ≤ (v3).toInt ∧ (v3).toInt ≤ 2 from ⟨by omega, by omega⟩) (show 4 - (v3).toInt ≤ m4 from by omega)
    · have q10 : (v5).toInt > (v4).toInt := tnle c4
      have q11 : (0 : Int) ≤ ((zI s0 28)).toInt ∧ ((zI s0 28)).toInt ≤ 3 := (h_s0).1 28
      have q12 : (0 : Int) ≤ ((zI s0 50)).toInt ∧ ((zI s0 50)).toInt ≤ 1 := (h_s0).1 50
      exact t_Mo_mixedOf_b94 N hN kh4 m4 _ _ _ _ _  hkh4 h_s0 (show (1 : Int) ≤ ((zI s0 28)).toInt ∧ ((zI s0 28)).toInt ≤ 3 from ⟨by omega, by omega⟩) (show (1 : Int) ≤ ((zI s0 50)).toInt ∧ ((zI s0 50)).toInt ≤ 1 from ⟨by omega, by omega⟩) (show (0 : Int) ≤ (v1).toInt ∧ (v1).toInt ≤ 2047 from ⟨by omega, by omega⟩) (show (0 : Int) ≤ (v3).toInt ∧ (v3).toInt ≤ 2 from ⟨by omega, by omega⟩) (show 4 - (v3).toInt ≤ m4 from by omega)
  · have q13 : ((zI s0 30)).toInt > (v6).toInt := tnle c1
    refine zok_ck (show vp_in v6 9 from vin (by omega) (by omega)) ?_
    have q14 : (0 : Int) ≤ (((zA s0 21) (Int32.toNatClampNeg v6))).toInt ∧ (((zA s0 21) (Int32.toNatClampNeg v6))).toInt ≤ 10 := (h_s0).2 21 _
    refine zok_ck (show vp_in ((zA s0 21) (Int32.toNatClampNeg v6)) 11 from vin (by omega) (by omega)) ?_
    have q16 := tr ((zA s0 18) (Int32.toNatClampNeg ((zA s0 21) (Int32.toNatClampNeg v6))))
    refine zok_ite (fun c15 => ?_) (fun c15 => ?_)
    · have q17 : (((zA s0 18) (Int32.toNatClampNeg ((zA s0 21) (Int32.toNatClampNeg v6))))).toInt = (v3).toInt := teq c15
      refine zok_ck (show vp_in v6 9 from vin (by omega) (by omega)) ?_
      refine zok_ite (fun c18 => ?_) (fun c18 => ?_)
      · have q19 : (0 : Int) ≤ ((zI s0 28)).toInt ∧ ((zI s0 28)).toInt ≤ 3 := (h_s0).1 28
        have q20 : (0 : Int) ≤ ((zI s0 50)).toInt ∧ ((zI s0 50)).toInt ≤ 1 := (h_s0).1 50
        exact t_Mo_mixedOf_b73 N hN kh4 m4 kh21 m21 _ _ _ _ _ _ _  hkh4 hkh21 h_s0 (show (1 : Int) ≤ ((zI s0 28)).toInt ∧ ((zI s0 28)).toInt ≤ 3 from ⟨by omega, by omega⟩) (show (1 : Int) ≤ ((zI s0 30)).toInt ∧ ((zI s0 30)).toInt ≤ 9 from ⟨by omega, by omega⟩) (show (1 : Int) ≤ ((zI s0 50)).toInt ∧ ((zI s0 50)).toInt ≤ 1 from ⟨by omega, by omega⟩) (show (0 : Int) ≤ (v1).toInt ∧ (v1).toInt ≤ 2047 from ⟨by omega, by omega⟩) (show (0 : Int) ≤ (v3).toInt ∧ (v3).toInt ≤ 2 from ⟨by omega, by omega⟩) (show (0 : Int) ≤ (v6).toInt ∧ (v6).toInt ≤ 8 from ⟨by omega, by omega⟩) (show 4 - (v3).toInt ≤ m4 from by omega) (show 10 - (v6).toInt ≤ m21 from by omega)
      · have q21 : (0 : Int) ≤ ((zI s0 28)).toInt ∧ ((zI s0 28)).toInt ≤ 3 := (h_s0).1 28
        have q22 : (0 : Int) ≤ ((zI s0 50)).toInt ∧ ((zI s0 50)).toInt ≤ 1 := (h_s0).1 50
        exact t_Mo_mixedOf_b73 N hN kh4 m4 kh21 m21 _ _ _ _ _ _ _  hkh4 hkh21 h_s0 (show (1 : Int) ≤ ((zI s0 28)).toInt ∧ ((zI s0 28)).toInt ≤ 3 from ⟨by omega, by omega⟩) (show (1 : Int) ≤ ((zI s0 30)).toInt ∧ ((zI s0 30)).toInt ≤ 9 from ⟨by omega, by omega⟩) (show (1 : Int) ≤ ((zI s0 50)).toInt ∧ ((zI s0 50)).toInt ≤ 1 from ⟨by omega, by omega⟩) (show (0 : Int) ≤ (v1).toInt ∧ (v1).toInt ≤ 2047 from ⟨by omega, by omega⟩) (show (0 : Int) ≤ (v3).toInt ∧ (v3).toInt ≤ 2 from ⟨by omega, by omega⟩) (show (0 : Int) ≤ (v6).toInt ∧ (v6).toInt ≤ 8 from ⟨by omega, by omega⟩) (show 4 - (v3).toInt ≤ m4 from by omega) (show 10 - (v6).toInt ≤ m21 from by omega)
    · have q23 : (((zA s0 18) (Int32.toNatClampNeg ((zA s0 21) (Int32.toNatClampNeg v6))))).toInt ≠ (v3).toInt := tneq c15
      have q24 : (0 : Int) ≤ ((zI s0 28)).toInt ∧ ((zI s0 28)).toInt ≤ 3 := (h_s0).1 28
      have q25 : (0 : Int) ≤ ((zI s0 50)).toInt ∧ ((zI s0 50)).toInt ≤ 1 := (h_s0).1 50
      exact t_Mo_mixedOf_b73 N hN kh4 m4 kh21 m21 _ _ _ _ _ _ _  hkh4 hkh21 h_s0 (show (1 : Int) ≤ ((zI s0 28)).toInt ∧ ((zI s0 28)).toInt ≤ 3 from ⟨by omega, by omega⟩) (show (1 : Int) ≤ ((zI s0 30)).toInt ∧ ((zI s0 30)).toInt ≤ 9 from ⟨by omega, by omega⟩) (show (1 : Int) ≤ ((zI s0 50)).toInt ∧ ((zI s0 50)).toInt ≤ 1 from ⟨by omega, by omega⟩) (show (0 : Int) ≤ (v1).toInt ∧ (v1).toInt ≤ 2047 from ⟨by omega, by omega⟩) (show (0 : Int) ≤ (v3).toInt ∧ (v3).toInt ≤ 2 from ⟨by omega, by omega⟩) (show (0 : Int) ≤ (v6).toInt ∧ (v6).toInt ≤ 8 from ⟨by omega, by omega⟩) (show 4 - (v3).toInt ≤ m4 from by omega) (show 10 - (v6).toInt ≤ m21 from by omega)
theorem t_Mo_mixedOf_h21 (N : Nat) (hN : 50000000 ≤ N) (kh4 : Int32 → Int32 → Option (Int32)) (m4 : Int) (s0 : zSt) (v1 : Int32) (v2 : Int32) (v3 : Int32) (hkh4 : ∀ (v2 : Int32) (v3 : Int32), (0 : Int) ≤ (v3).toInt ∧ (v3).toInt ≤ 3 → 4 - (v3).toInt ≤ m4 - 1 → zok (kh4 v2 v3) (fun z => True)) (h_s0 : I_Mo s0) (h_s0_28 : (1 : Int) ≤ (zI s0 28).toInt ∧ (zI s0 28).toInt ≤ 3) (h_s0_50 : (1 : Int) ≤ (zI s0 50).toInt ∧ (zI s0 50).toInt ≤ 1) (h_v1 : (0 : Int) ≤ (v1).toInt ∧ (v1).toInt ≤ 2047) (h_v3 : (0 : Int) ≤ (v3).toInt ∧ (v3).toInt ≤ 2) (hm4 : 4 - (v3).toInt ≤ m4) : ∀ (n : Nat) (v4 : Int32) (v5 : Int32) (v6 : Int32), (0 : Int) ≤ (v6).toInt ∧ (v6).toInt ≤ 9 → 10 - (v6).toInt ≤ (n : Int) → zok (Mo_mixedOf_h21 N kh4 s0 v1 v2 v3 n v4 v5 v6) (fun z => True)
  | 0, v4, v5, v6, h_v6, hm => absurd hm (by omega)
  | n + 1, v4, v5, v6, h_v6, hm => by
    rw [Mo_mixedOf_h21_s]
    exact t_Mo_mixedOf_b21 N hN kh4 m4 (Mo_mixedOf_h21 N kh4 s0 v1 v2 v3 n) ((n + 1 : Nat) : Int) s0 v1 v2 v3 v4 v5 v6  hkh4 (fun v4 v5 v6 h_v6 q => t_Mo_mixedOf_h21 N hN kh4 m4 s0 v1 v2 v3  hkh4 h_s0 h_s0_28 h_s0_50 h_v1 h_v3  hm4 n v4 v5 v6 h_v6 (by omega)) h_s0 h_s0_28 h_s0_50 h_v1 h_v3 h_v6  hm4 hm
theorem t_Mo_mixedOf_b4 (N : Nat) (hN : 50000000 ≤ N) (kh4 : Int32 → Int32 → Option (Int32)) (m4 : Int) (s0 : zSt) (v1 : Int32) (v2 : Int32) (v3 : Int32) (hkh4 : ∀ (v2 : Int32) (v3 : Int32), (0 : Int) ≤ (v3).toInt ∧ (v3).toInt ≤ 3 → 4 - (v3).toInt ≤ m4 - 1 → zok (kh4 v2 v3) (fun z => True)) (h_s0 : I_Mo s0) (h_s0_50 : (1 : Int) ≤ (zI s0 50).toInt ∧ (zI s0 50).toInt ≤ 1) (h_v1 : (0 : Int) ≤ (v1).toInt ∧ (v1).toInt ≤ 2047) (h_v3 : (0 : Int) ≤ (v3).toInt ∧ (v3).toInt ≤ 3) (hm4 : 4 - (v3).toInt ≤ m4) : zok (Mo_mixedOf_b4 N kh4 s0 v1 v2 v3) (fun z => True) := by
  rw [Mo_mixedOf_b4]
  have q2 : (0 : Int) ≤ ((zI s0 28)).toInt ∧ ((zI s0 28)).toInt ≤ 3 := (h_s0).1 28
  refine zok_ite (fun c1 => ?_) (fun c1 => ?_)
  · have q3 : ((zI s0 28)).toInt ≤ (v3).toInt := tle c1
    exact zok_some trivial
  · have q4 : ((zI s0 28)).toInt > (v3).toInt := tnle c1
    have q5 : (0 : Int) ≤ ((zI s0 50)).toInt ∧ ((zI s0 50)).toInt ≤ 1 := (h_s0).1 50
    have q6 := li_0
    exact t_Mo_mixedOf_h21 N hN kh4 m4 _ _ _ _  hkh4 h_s0 (show (1 : Int) ≤ ((zI s0 28)).toInt ∧ ((zI s0 28)).toInt ≤ 3 from ⟨by omega, by omega⟩) (show (1 : Int) ≤ ((zI s0 50)).toInt ∧ ((zI s0 50)).toInt ≤ 1 from ⟨by omega, by omega⟩) (show (0 : Int) ≤ (v1).toInt ∧ (v1).toInt ≤ 2047 from ⟨by omega, by omega⟩) (show (0 : Int) ≤ (v3).toInt ∧ (v3).toInt ≤ 2 from ⟨by omega, by omega⟩) (show 4 - (v3).toInt ≤ m4 from by omega) N _ _ _ (show (0 : Int) ≤ ((0 : Int32)).toInt ∧ ((0 : Int32)).toInt ≤ 9 from ⟨by omega, by omega⟩) (show 10 - ((0 : Int32)).toInt ≤ (N : Int) from by omega)
theorem t_Mo_mixedOf_h4 (N : Nat) (hN : 50000000 ≤ N) (s0 : zSt) (v1 : Int32) (h_s0 : I_Mo s0) (h_s0_50 : (1 : Int) ≤ (zI s0 50).toInt ∧ (zI s0 50).toInt ≤ 1) (h_v1 : (0 : Int) ≤ (v1).toInt ∧ (v1).toInt ≤ 2047) : ∀ (n : Nat) (v2 : Int32) (v3 : Int32), (0 : Int) ≤ (v3).toInt ∧ (v3).toInt ≤ 3 → 4 - (v3).toInt ≤ (n : Int) → zok (Mo_mixedOf_h4 N s0 v1 n v2 v3) (fun z => True)
  | 0, v2, v3, h_v3, hm => absurd hm (by omega)
  | n + 1, v2, v3, h_v3, hm => by
    rw [Mo_mixedOf_h4_s]
    exact t_Mo_mixedOf_b4 N hN (Mo_mixedOf_h4 N s0 v1 n) ((n + 1 : Nat) : Int) s0 v1 v2 v3  (fun v2 v3 h_v3 q => t_Mo_mixedOf_h4 N hN  s0 v1   h_s0 h_s0_50 h_v1   n v2 v3 h_v3 (by omega)) h_s0 h_s0_50 h_v1 h_v3  hm
theorem t_Mo_mixedOf_b0 (N : Nat) (hN : 50000000 ≤ N) (s0 : zSt) (v1 : Int32) (h_s0 : I_Mo s0) (h_s0_50 : (1 : Int) ≤ (zI s0 50).toInt ∧ (zI s0 50).toInt ≤ 1) (h_v1 : (0 : Int) ≤ (v1).toInt ∧ (v1).toInt ≤ 2047) : zok (Mo_mixedOf_b0 N s0 v1) (fun z => True) := by
  rw [Mo_mixedOf_b0]
  have q1 : (0 : Int) ≤ ((zI s0 50)).toInt ∧ ((zI s0 50)).toInt ≤ 1 := (h_s0).1 50
  have q2 := li_0
  exact t_Mo_mixedOf_h4 N hN  _ _   h_s0 (show (1 : Int) ≤ ((zI s0 50)).toInt ∧ ((zI s0 50)).toInt ≤ 1 from ⟨by omega, by omega⟩) (show (0 : Int) ≤ (v1).toInt ∧ (v1).toInt ≤ 2047 from ⟨by omega, by omega⟩)  N _ _ (show (0 : Int) ≤ ((0 : Int32)).toInt ∧ ((0 : Int32)).toInt ≤ 3 from ⟨by omega, by omega⟩) (show 4 - ((0 : Int32)).toInt ≤ (N : Int) from by omega)
theorem t_Mo_mixedOf (N : Nat) (hN : 50000000 ≤ N) (s0 : zSt) (v1 : Int32) (h_s0 : I_Mo s0) (h_s0_50 : (1 : Int) ≤ (zI s0 50).toInt ∧ (zI s0 50).toInt ≤ 1) (h_v1 : (0 : Int) ≤ (v1).toInt ∧ (v1).toInt ≤ 2047) : zok (Mo_mixedOf N s0 v1) (fun z => True) :=
  t_Mo_mixedOf_b0 N hN s0 v1  h_s0 h_s0_50 h_v1 
theorem t_Mo_parted_b130 (N : Nat) (hN : 50000000 ≤ N) (kh51 : Int32 → Int32 → Int32 → Int32 → Int32 → Int32 → Option (Int32)) (m51 : Int) (s0 : zSt) (v1 : Int32) (v2 : Int32) (v3 : Int32) (v4 : Int32) (v5 : Int32) (v6 : Int32) (v7 : Int32) (v8 : Int32) (v9 : Int32) (v10 : Int32) (hkh51 : ∀ (v5 : Int32) (v6 : Int32) (v7 : Int32) (v8 : Int32) (v9 : Int32) (v10 : Int32), (0 : Int) ≤ (v6).toInt ∧ (v6).toInt ≤ 2047 → (0 : Int) ≤ (v7).toInt ∧ (v7).toInt ≤ 2047 → (-1 : Int) ≤ (v8).toInt ∧ (v8).toInt ≤ 2047 → (0 : Int) ≤ (v10).toInt ∧ (v10).toInt ≤ 2048 → 2049 - (v10).toInt ≤ m51 - 1 → zok (kh51 v5 v6 v7 v8 v9 v10) (fun z => True)) (h_s0 : I_Mo s0) (h_s0_50 : (1 : Int) ≤ (zI s0 50).toInt ∧ (zI s0 50).toInt ≤ 1) (h_v1 : (0 : Int) ≤ (v1).toInt ∧ (v1).toInt ≤ 20) (h_v2 : (0 : Int) ≤ (v2).toInt ∧ (v2).toInt ≤ 4) (h_v4 : (0 : Int) ≤ (v4).toInt ∧ (v4).toInt ≤ 2047) (h_v6 : (0 : Int) ≤ (v6).toInt ∧ (v6).toInt ≤ 2047) (h_v7 : (0 : Int) ≤ (v7).toInt ∧ (v7).toInt ≤ 2047) (h_v8 : (-1 : Int) ≤ (v8).toInt ∧ (v8).toInt ≤ 2047) (h_v10 : (0 : Int) ≤ (v10).toInt ∧ (v10).toInt ≤ 2047) (hm51 : 2049 - (v10).toInt ≤ m51) : zok (Mo_parted_b130 N kh51 s0 v1 v2 v3 v4 v5 v6 v7 v8 v9 v10) (fun z => True) := by
  rw [Mo_parted_b130]
  have q1 := li_1
  have q2 := tadd v10 (1 : Int32) (by omega) (by omega)
  exact hkh51 _ _ _ _ _ _ (show (0 : Int) ≤ (v6).toInt ∧ (v6).toInt ≤ 2047 from ⟨by omega, by omega⟩) (show (0 : Int) ≤ (v7).toInt ∧ (v7).toInt ≤ 2047 from ⟨by omega, by omega⟩) (show (-1 : Int) ≤ (v8).toInt ∧ (v8).toInt ≤ 2047 from ⟨by omega, by omega⟩) (show (0 : Int) ≤ ((v10 + (1 : Int32))).toInt ∧ ((v10 + (1 : Int32))).toInt ≤ 2048 from ⟨by omega, by omega⟩) (show 2049 - ((v10 + (1 : Int32))).toInt ≤ m51 - 1 by omega)
theorem t_Mo_parted_b122 (N : Nat) (hN : 50000000 ≤ N) (kh51 : Int32 → Int32 → Int32 → Int32 → Int32 → Int32 → Option (Int32)) (m51 : Int) (s0 : zSt) (v1 : Int32) (v2 : Int32) (v3 : Int32) (v4 : Int32) (v5 : Int32) (v6 : Int32) (v7 : Int32) (v10 : Int32) (v11 : Int32) (hkh51 : ∀ (v5 : Int32) (v6 : Int32) (v7 : Int32) (v8 : Int32) (v9 : Int32) (v10 : Int32), (0 : Int) ≤ (v6).toInt ∧ (v6).toInt ≤ 2047 → (0 : Int) ≤ (v7).toInt ∧ (v7).toInt ≤ 2047 → (-1 : Int) ≤ (v8).toInt ∧ (v8).toInt ≤ 2047 → (0 : Int) ≤ (v10).toInt ∧ (v10).toInt ≤ 2048 → 2049 - (v10).toInt ≤ m51 - 1 → zok (kh51 v5 v6 v7 v8 v9 v10) (fun z => True)) (h_s0 : I_Mo s0) (h_s0_50 : (1 : Int) ≤ (zI s0 50).toInt ∧ (zI s0 50).toInt ≤ 1) (h_v1 : (0 : Int) ≤ (v1).toInt ∧ (v1).toInt ≤ 20) (h_v2 : (0 : Int) ≤ (v2).toInt ∧ (v2).toInt ≤ 4) (h_v4 : (0 : Int) ≤ (v4).toInt ∧ (v4).toInt ≤ 2047) (h_v6 : (0 : Int) ≤ (v6).toInt ∧ (v6).toInt ≤ 2047) (h_v7 : (0 : Int) ≤ (v7).toInt ∧ (v7).toInt ≤ 2047) (h_v10 : (0 : Int) ≤ (v10).toInt ∧ (v10).toInt ≤ 2047) (hm51 : 2049 - (v10).toInt ≤ m51) : zok (Mo_parted_b122 N kh51 s0 v1 v2 v3 v4 v5 v6 v7 v10 v11) (fun z => True) := by
  rw [Mo_parted_b122]
  have q1 : (0 : Int) ≤ ((zI s0 50)).toInt ∧ ((zI s0 50)).toInt ≤ 1 := (h_s0).1 50
  exact t_Mo_parted_b130 N hN kh51 m51 _ _ _ _ _ _ _ _ _ _ _  hkh51 h_s0 (show (1 : Int) ≤ ((zI s0 50)).toInt ∧ ((zI s0 50)).toInt ≤ 1 from ⟨by omega, by omega⟩) (show (0 : Int) ≤ (v1).toInt ∧ (v1).toInt ≤ 20 from ⟨by omega, by omega⟩) (show (0 : Int) ≤ (v2).toInt ∧ (v2).toInt ≤ 4 from ⟨by omega, by omega⟩) (show (0 : Int) ≤ (v4).toInt ∧ (v4).toInt ≤ 2047 from ⟨by omega, by omega⟩) (show (0 : Int) ≤ (v6).toInt ∧ (v6).toInt ≤ 2047 from ⟨by omega, by omega⟩) (show (0 : Int) ≤ (v7).toInt ∧ (v7).toInt ≤ 2047 from ⟨by omega, by omega⟩) (show (-1 : Int) ≤ (v10).toInt ∧ (v10).toInt ≤ 2047 from ⟨by omega, by omega⟩) (show (0 : Int) ≤ (v10).toInt ∧ (v10).toInt ≤ 2047 from ⟨by omega, by omega⟩) (show 2049 - (v10).toInt ≤ m51 from by omega)
theorem t_Mo_parted_b51 (N : Nat) (hN : 50000000 ≤ N) (kh51 : Int32 → Int32 → Int32 → Int32 → Int32 → Int32 → Option (Int32)) (m51 : Int) (s0 : zSt) (v1 : Int32) (v2 : Int32) (v3 : Int32) (v4 : Int32) (v5 : Int32) (v6 : Int32) (v7 : Int32) (v8 : Int32) (v9 : Int32) (v10 : Int32) (hkh51 : ∀ (v5 : Int32) (v6 : Int32) (v7 : Int32) (v8 : Int32) (v9 : Int32) (v10 : Int32), (0 : Int) ≤ (v6).toInt ∧ (v6).toInt ≤ 2047 → (0 : Int) ≤ (v7).toInt ∧ (v7).toInt ≤ 2047 → (-1 : Int) ≤ (v8).toInt ∧ (v8).toInt ≤ 2047 → (0 : Int) ≤ (v10).toInt ∧ (v10).toInt ≤ 2048 → 2049 - (v10).toInt ≤ m51 - 1 → zok (kh51 v5 v6 v7 v8 v9 v10) (fun z => True)) (h_s0 : I_Mo s0) (h_s0_50 : (1 : Int) ≤ (zI s0 50).toInt ∧ (zI s0 50).toInt ≤ 1) (h_v1 : (0 : Int) ≤ (v1).toInt ∧ (v1).toInt ≤ 20) (h_v2 : (0 : Int) ≤ (v2).toInt ∧ (v2).toInt ≤ 4) (h_v4 : (0 : Int) ≤ (v4).toInt ∧ (v4).toInt ≤ 2047) (h_v6 : (0 : Int) ≤ (v6).toInt ∧ (v6).toInt ≤ 2047) (h_v7 : (0 : Int) ≤ (v7).toInt ∧ (v7).toInt ≤ 2047) (h_v8 : (-1 : Int) ≤ (v8).toInt ∧ (v8).toInt ≤ 2047) (h_v10 : (0 : Int) ≤ (v10).toInt ∧ (v10).toInt ≤ 2048) (hm51 : 2049 - (v10).toInt ≤ m51) : zok (Mo_parted_b51 N kh51 s0 v1 v2 v3 v4 v5 v6 v7 v8 v9 v10) (fun z => True) := by
  rw [Mo_parted_b51]
  refine zok_ite (fun c1 => ?_) (fun c1 => ?_)
  · have q2 : (v4).toInt < (v10).toInt := tlt c1
    have q4 := li_0
    refine zok_ite (fun c3 => ?_) (fun c3 => ?_)
    · have q5 : (v2).toInt = ((0 : Int32)).toInt := teq c3
      exact zok_some trivial
    · have q6 : (v2).toInt ≠ ((0 : Int32)).toInt := tneq c3
      have q8 := li_1
      refine zok_ite (fun c7 => ?_) (fun c7 => ?_)
      · have q9 : (v2).toInt = ((1 : Int32)).toInt := teq c7
        have q11 := tr v5
        refine zok_ite (fun c10 => ?_) (fun c10 => ?_)
        · have q12 : (v5).toInt = ((0 : Int32)).toInt := teq c10
          exact zok_some trivial
        · have q13 : (v5).toInt ≠ ((0 : Int32)).toInt := tneq c10
          exact zok_some trivial
      · have q14 : (v2).toInt ≠ ((1 : Int32)).toInt := tneq c7
        have q16 := li_2
        refine zok_ite (fun c15 => ?_) (fun c15 => ?_)
        · have q17 : (v2).toInt = ((2 : Int32)).toInt := teq c15
          have q19 := tr v5
          refine zok_ite (fun c18 => ?_) (fun c18 => ?_)
          · have q20 : (v5).toInt = ((0 : Int32)).toInt := teq c18
            exact zok_some trivial
          · have q21 : (v5).toInt ≠ ((0 : Int32)).toInt := tneq c18
            exact zok_some trivial
        · have q22 : (v2).toInt ≠ ((2 : Int32)).toInt := tneq c15
          have q24 := li_3
          refine zok_ite (fun c23 => ?_) (fun c23 => ?_)
          · have q25 : (v2).toInt = ((3 : Int32)).toInt := teq c23
            refine zok_ite (fun c26 => ?_) (fun c26 => ?_)
            · have q27 : ((0 : Int32)).toInt ≤ (v8).toInt := tle c26
              exact zok_some trivial
            · have q28 : ((0 : Int32)).toInt > (v8).toInt := tnle c26
              exact zok_some trivial
          · have q29 : (v2).toInt ≠ ((3 : Int32)).toInt := tneq c23
            exact zok_some trivial
  · have q30 : (v4).toInt ≥ (v10).toInt := tnlt c1
    refine zok_ite (fun c31 => ?_) (fun c31 => ?_)
    · have q32 : (0 : Int) ≤ ((zI s0 50)).toInt ∧ ((zI s0 50)).toInt ≤ 1 := (h_s0).1 50
      refine zok_bind (t_Mo_isParted N hN s0 v10 v1 v3 h_s0 (show (1 : Int) ≤ ((zI s0 50)).toInt ∧ ((zI s0 50)).toInt ≤ 1 from ⟨by omega, by omega⟩) (show (0 : Int) ≤ (v10).toInt ∧ (v10).toInt ≤ 2047 from ⟨by omega, by omega⟩) (show (0 : Int) ≤ (v1).toInt ∧ (v1).toInt ≤ 20 from ⟨by omega, by omega⟩)) (fun z7 hz7 => ?_)
      have h_z7 := hz7
      have q34 := li_0
      refine zok_ite (fun c33 => ?_) (fun c33 => ?_)
      · have q35 : (z7).toInt = ((0 : Int32)).toInt := teq c33
        exact t_Mo_parted_b130 N hN kh51 m51 _ _ _ _ _ _ _ _ _ _ _  hkh51 h_s0 (show (1 : Int) ≤ ((zI s0 50)).toInt ∧ ((zI s0 50)).toInt ≤ 1 from ⟨by omega, by omega⟩) (show (0 : Int) ≤ (v1).toInt ∧ (v1).toInt ≤ 20 from ⟨by omega, by omega⟩) (show (0 : Int) ≤ (v2).toInt ∧ (v2).toInt ≤ 4 from ⟨by omega, by omega⟩) (show (0 : Int) ≤ (v4).toInt ∧ (v4).toInt ≤ 2047 from ⟨by omega, by omega⟩) (show (0 : Int) ≤ (v6).toInt ∧ (v6).toInt ≤ 2047 from ⟨by omega, by omega⟩) (show (0 : Int) ≤ (v7).toInt ∧ (v7).toInt ≤ 2047 from ⟨by omega, by omega⟩) (show (-1 : Int) ≤ (v8).toInt ∧ (v8).toInt ≤ 2047 from ⟨by omega, by omega⟩) (show (0 : Int) ≤ (v10).toInt ∧ (v10).toInt ≤ 2047 from ⟨by omega, by omega⟩) (show 2049 - (v10).toInt ≤ m51 from by omega)
      · have q36 : (z7).toInt ≠ ((0 : Int32)).toInt := tneq c33
        refine zok_bind (t_Mo_mixedOf N hN s0 v10 h_s0 (show (1 : Int) ≤ ((zI s0 50)).toInt ∧ ((zI s0 50)).toInt ≤ 1 from ⟨by omega, by omega⟩) (show (0 : Int) ≤ (v10).toInt ∧ (v10).toInt ≤ 2047 from ⟨by omega, by omega⟩)) (fun z10 hz10 => ?_)
        have h_z10 := hz10
        refine zok_ite (fun c37 => ?_) (fun c37 => ?_)
        · have q38 : (v8).toInt < ((0 : Int32)).toInt := tlt c37
          have q39 := tandr v6 v10 (by omega)
          have q40 := tor v7 v10 11 (by decide) (by omega) (by omega) (by omega) (by omega)
          exact t_Mo_parted_b122 N hN kh51 m51 _ _ _ _ _ _ _ _ _ _  hkh51 h_s0 (show (1 : Int) ≤ ((zI s0 50)).toInt ∧ ((zI s0 50)).toInt ≤ 1 from ⟨by omega, by omega⟩) (show (0 : Int) ≤ (v1).toInt ∧ (v1).toInt ≤ 20 from ⟨by omega, by omega⟩) (show (0 : Int) ≤ (v2).toInt ∧ (v2).toInt ≤ 4 from ⟨by omega, by omega⟩) (show (0 : Int) ≤ (v4).toInt ∧ (v4).toInt ≤ 2047 from ⟨by omega, by omega⟩) (show (0 : Int) ≤ ((v6 &&& v10)).toInt ∧ ((v6 &&& v10)).toInt ≤ 2047 from ⟨by omega, by omega⟩) (show (0 : Int) ≤ ((v7 ||| v10)).toInt ∧ ((v7 ||| v10)).toInt ≤ 2047 from ⟨by omega, by omega⟩) (show (0 : Int) ≤ (v10).toInt ∧ (v10).toInt ≤ 2047 from ⟨by omega, by omega⟩) (show 2049 - (v10).toInt ≤ m51 from by omega)
        · have q41 : (v8).toInt ≥ ((0 : Int32)).toInt := tnlt c37
          have q43 := tr z10
          have q44 := tr v9
          refine zok_ite (fun c42 => ?_) (fun c42 => ?_)
          · have q45 : (z10).toInt < (v9).toInt := tlt c42
            have q46 := tandr v6 v10 (by omega)
            have q47 := tor v7 v10 11 (by decide) (by omega) (by omega) (by omega) (by omega)
            exact t_Mo_parted_b122 N hN kh51 m51 _ _ _ _ _ _ _ _ _ _  hkh51 h_s0 (show (1 : Int) ≤ ((zI s0 50)).toInt ∧ ((zI s0 50)).toInt ≤ 1 from ⟨by omega, by omega⟩) (show (0 : Int) ≤ (v1).toInt ∧ (v1).toInt ≤ 20 from ⟨by omega, by omega⟩) (show (0 : Int) ≤ (v2).toInt ∧ (v2).toInt ≤ 4 from ⟨by omega, by omega⟩) (show (0 : Int) ≤ (v4).toInt ∧ (v4).toInt ≤ 2047 from ⟨by omega, by omega⟩) (show (0 : Int) ≤ ((v6 &&& v10)).toInt ∧ ((v6 &&& v10)).toInt ≤ 2047 from ⟨by omega, by omega⟩) (show (0 : Int) ≤ ((v7 ||| v10)).toInt ∧ ((v7 ||| v10)).toInt ≤ 2047 from ⟨by omega, by omega⟩) (show (0 : Int) ≤ (v10).toInt ∧ (v10).toInt ≤ 2047 from ⟨by omega, by omega⟩) (show 2049 - (v10).toInt ≤ m51 from by omega)
          · have q48 : (z10).toInt ≥ (v9).toInt := tnlt c42
            have q49 := tandr v6 v10 (by omega)
            have q50 := tor v7 v10 11 (by decide) (by omega) (by omega) (by omega) (by omega)
            exact t_Mo_parted_b130 N hN kh51 m51 _ _ _ _ _ _ _ _ _ _ _  hkh51 h_s0 (show (1 : Int) ≤ ((zI s0 50)).toInt ∧ ((zI s0 50)).toInt ≤ 1 from ⟨by omega, by omega⟩) (show (0 : Int) ≤ (v1).toInt ∧ (v1).toInt ≤ 20 from ⟨by omega, by omega⟩) (show (0 : Int) ≤ (v2).toInt ∧ (v2).toInt ≤ 4 from ⟨by omega, by omega⟩) (show (0 : Int) ≤ (v4).toInt ∧ (v4).toInt ≤ 2047 from ⟨by omega, by omega⟩) (show (0 : Int) ≤ ((v6 &&& v10)).toInt ∧ ((v6 &&& v10)).toInt ≤ 2047 from ⟨by omega, by omega⟩) (show (0 : Int) ≤ ((v7 ||| v10)).toInt ∧ ((v7 ||| v10)).toInt ≤ 2047 from ⟨by omega, by omega⟩) (show (-1 : Int) ≤ (v8).toInt ∧ (v8).toInt ≤ 2047 from ⟨by omega, by omega⟩) (show (0 : Int) ≤ (v10).toInt ∧ (v10).toInt ≤ 2047 from ⟨by omega, by omega⟩) (show 2049 - (v10).toInt ≤ m51 from by omega)
    · have q51 : (0 : Int) ≤ ((zI s0 50)).toInt ∧ ((zI s0 50)).toInt ≤ 1 := (h_s0).1 50
      exact t_Mo_parted_b130 N hN kh51 m51 _ _ _ _ _ _ _ _ _ _ _  hkh51 h_s0 (show (1 : Int) ≤ ((zI s0 50)).toInt ∧ ((zI s0 50)).toInt ≤ 1 from ⟨by omega, by omega⟩) (show (0 : Int) ≤ (v1).toInt ∧ (v1).toInt ≤ 20 from ⟨by omega, by omega⟩) (show (0 : Int) ≤ (v2).toInt ∧ (v2).toInt ≤ 4 from ⟨by omega, by omega⟩) (show (0 : Int) ≤ (v4).toInt ∧ (v4).toInt ≤ 2047 from ⟨by omega, by omega⟩) (show (0 : Int) ≤ (v6).toInt ∧ (v6).toInt ≤ 2047 from ⟨by omega, by omega⟩) (show (0 : Int) ≤ (v7).toInt ∧ (v7).toInt ≤ 2047 from ⟨by omega, by omega⟩) (show (-1 : Int) ≤ (v8).toInt ∧ (v8).toInt ≤ 2047 from ⟨by omega, by omega⟩) (show (0 : Int) ≤ (v10).toInt ∧ (v10).toInt ≤ 2047 from ⟨by omega, by omega⟩) (show 2049 - (v10).toInt ≤ m51 from by omega)
theorem t_Mo_parted_h51 (N : Nat) (hN : 50000000 ≤ N) (s0 : zSt) (v1 : Int32) (v2 : Int32) (v3 : Int32) (v4 : Int32) (h_s0 : I_Mo s0) (h_s0_50 : (1 : Int) ≤ (zI s0 50).toInt ∧ (zI s0 50).toInt ≤ 1) (h_v1 : (0 : Int) ≤ (v1).toInt ∧ (v1).toInt ≤ 20) (h_v2 : (0 : Int) ≤ (v2).toInt ∧ (v2).toInt ≤ 4) (h_v4 : (0 : Int) ≤ (v4).toInt ∧ (v4).toInt ≤ 2047) : ∀ (n : Nat) (v5 : Int32) (v6 : Int32) (v7 : Int32) (v8 : Int32) (v9 : Int32) (v10 : Int32), (0 : Int) ≤ (v6).toInt ∧ (v6).toInt ≤ 2047 → (0 : Int) ≤ (v7).toInt ∧ (v7).toInt ≤ 2047 → (-1 : Int) ≤ (v8).toInt ∧ (v8).toInt ≤ 2047 → (0 : Int) ≤ (v10).toInt ∧ (v10).toInt ≤ 2048 → 2049 - (v10).toInt ≤ (n : Int) → zok (Mo_parted_h51 N s0 v1 v2 v3 v4 n v5 v6 v7 v8 v9 v10) (fun z => True)
  | 0, v5, v6, v7, v8, v9, v10, h_v6, h_v7, h_v8, h_v10, hm => absurd hm (by omega)
  | n + 1, v5, v6, v7, v8, v9, v10, h_v6, h_v7, h_v8, h_v10, hm => by
    rw [Mo_parted_h51_s]
    exact t_Mo_parted_b51 N hN (Mo_parted_h51 N s0 v1 v2 v3 v4 n) ((n + 1 : Nat) : Int) s0 v1 v2 v3 v4 v5 v6 v7 v8 v9 v10  (fun v5 v6 v7 v8 v9 v10 h_v6 h_v7 h_v8 h_v10 q => t_Mo_parted_h51 N hN  s0 v1 v2 v3 v4   h_s0 h_s0_50 h_v1 h_v2 h_v4   n v5 v6 v7 v8 v9 v10 h_v6 h_v7 h_v8 h_v10 (by omega)) h_s0 h_s0_50 h_v1 h_v2 h_v4 h_v6 h_v7 h_v8 h_v10  hm
theorem t_Mo_parted_b0 (N : Nat) (hN : 50000000 ≤ N) (s0 : zSt) (v1 : Int32) (v2 : Int32) (v3 : Int32) (h_s0 : I_Mo s0) : zok (Mo_parted_b0 N s0 v1 v2 v3) (fun z => True) := by
  rw [Mo_parted_b0]
  rcases u_Mo_isWind N v1  with w1 | ⟨w1, w1_0, w1_1⟩ <;> rw [w1, zbs]
  · refine zok_t (by decide) ?_
    exact zok_some trivial
  · have q2 := li_0
    have q3 := tr v1
    have q4 : ((0 : Int32)).toInt ≤ (v1).toInt := w1_0
    have q5 := li_20
    have q6 : (v1).toInt ≤ ((20 : Int32)).toInt := w1_1
    refine zok_f (by decide) ?_
    have q7 := li_4
    rcases u_Mo_isIn N v2 (0 : Int32) (4 : Int32)  with w8 | ⟨w8, w8_0, w8_1⟩ <;> rw [w8, zbs]
    · refine zok_t (by decide) ?_
      exact zok_some trivial
    · have q9 := tr v2
      have q10 : ((0 : Int32)).toInt ≤ (v2).toInt := w8_0
      have q11 : (v2).toInt ≤ ((4 : Int32)).toInt := w8_1
      refine zok_f (by decide) ?_
      have q13 : (0 : Int) ≤ ((zI s0 50)).toInt ∧ ((zI s0 50)).toInt ≤ 1 := (h_s0).1 50
      refine zok_ite (fun c12 => ?_) (fun c12 => ?_)
      · have q14 : ((zI s0 50)).toInt = ((0 : Int32)).toInt := teq c12
        exact zok_some trivial
      · have q15 : ((zI s0 50)).toInt ≠ ((0 : Int32)).toInt := tneq c12
        refine zok_bind (t_Mo_beastSet N hN s0 h_s0) (fun z8 hz8 => ?_)
        have h_z8 := hz8
        have q16 := li_m1
        exact t_Mo_parted_h51 N hN  _ _ _ _ _   h_s0 (show (1 : Int) ≤ ((zI s0 50)).toInt ∧ ((zI s0 50)).toInt ≤ 1 from ⟨by omega, by omega⟩) (show (0 : Int) ≤ (v1).toInt ∧ (v1).toInt ≤ 20 from ⟨by omega, by omega⟩) (show (0 : Int) ≤ (v2).toInt ∧ (v2).toInt ≤ 4 from ⟨by omega, by omega⟩) (show (0 : Int) ≤ (z8).toInt ∧ (z8).toInt ≤ 2047 from ⟨by omega, by omega⟩)  N _ _ _ _ _ _ (show (0 : Int) ≤ (z8).toInt ∧ (z8).toInt ≤ 2047 from ⟨by omega, by omega⟩) (show (0 : Int) ≤ ((0 : Int32)).toInt ∧ ((0 : Int32)).toInt ≤ 2047 from ⟨by omega, by omega⟩) (show (-1 : Int) ≤ (((-1) : Int32)).toInt ∧ (((-1) : Int32)).toInt ≤ 2047 from ⟨by omega, by omega⟩) (show (0 : Int) ≤ ((0 : Int32)).toInt ∧ ((0 : Int32)).toInt ≤ 2048 from ⟨by omega, by omega⟩) (show 2049 - ((0 : Int32)).toInt ≤ (N : Int) from by omega)
theorem t_Mo_parted (N : Nat) (hN : 50000000 ≤ N) (s0 : zSt) (v1 : Int32) (v2 : Int32) (v3 : Int32) (h_s0 : I_Mo s0) : zok (Mo_parted N s0 v1 v2 v3) (fun z => True) :=
  t_Mo_parted_b0 N hN s0 v1 v2 v3  h_s0 
theorem t_Mo_couldCome_b72 (N : Nat) (hN : 50000000 ≤ N) (kh6 : Int32 → Int32 → Option (Int32)) (m6 : Int) (s0 : zSt) (v1 : Int32) (v2 : Int32) (v3 : Int32) (v4 : Int32) (v5 : Int32) (v7 : Int32) (t0 : Int32) (hkh6 : ∀ (v6 : Int32) (v7 : Int32), (0 : Int) ≤ (v6).toInt ∧ (v6).toInt ≤ 1 → (0 : Int) ≤ (v7).toInt ∧ (v7).toInt ≤ 40 → 41 - (v7).toInt ≤ m6 - 1 → zok (kh6 v6 v7) (fun z => ((0 : Int) ≤ (z).toInt ∧ (z).toInt ≤ 1))) (h_s0 : I_Mo s0) (h_s0_47 : (1 : Int) ≤ (zI s0 47).toInt ∧ (zI s0 47).toInt ≤ 40) (h_v1 : (0 : Int) ≤ (v1).toInt ∧ (v1).toInt ≤ 10) (h_v2 : (0 : Int) ≤ (v2).toInt ∧ (v2).toInt ≤ 96) (h_v3 : (0 : Int) ≤ (v3).toInt ∧ (v3).toInt ≤ 99) (h_v4 : (0 : Int) ≤ (v4).toInt ∧ (v4).toInt ≤ 20) (h_v7 : (0 : Int) ≤ (v7).toInt ∧ (v7).toInt ≤ 39) (h_t0 : (0 : Int) ≤ (t0).toInt ∧ (t0).toInt ≤ 1) (hm6 : 41 - (v7).toInt ≤ m6) : zok (Mo_couldCome_b72 N kh6 s0 v1 v2 v3 v4 v5 v7 t0) (fun z => ((0 : Int) ≤ (z).toInt ∧ (z).toInt ≤ 1)) := by
  rw [Mo_couldCome_b72]
  have q1 := li_1
  have q2 := tadd v7 (1 : Int32) (by omega) (by omega)
  exact hkh6 _ _ (show (0 : Int) ≤ (t0).toInt ∧ (t0).toInt ≤ 1 from ⟨by omega, by omega⟩) (show (0 : Int) ≤ ((v7 + (1 : Int32))).toInt ∧ ((v7 + (1 : Int32))).toInt ≤ 40 from ⟨by omega, by omega⟩) (show 41 - ((v7 + (1 : Int32))).toInt ≤ m6 - 1 by omega)
theorem t_Mo_couldCome_b67 (N : Nat) (hN : 50000000 ≤ N) (kh6 : Int32 → Int32 → Option (Int32)) (m6 : Int) (s0 : zSt) (v1 : Int32) (v2 : Int32) (v3 : Int32) (v4 : Int32) (v5 : Int32) (v7 : Int32) (hkh6 : ∀ (v6 : Int32) (v7 : Int32), (0 : Int) ≤ (v6).toInt ∧ (v6).toInt ≤ 1 → (0 : Int) ≤ (v7).toInt ∧ (v7).toInt ≤ 40 → 41 - (v7).toInt ≤ m6 - 1 → zok (kh6 v6 v7) (fun z => ((0 : Int) ≤ (z).toInt ∧ (z).toInt ≤ 1))) (h_s0 : I_Mo s0) (h_s0_47 : (1 : Int) ≤ (zI s0 47).toInt ∧ (zI s0 47).toInt ≤ 40) (h_v1 : (0 : Int) ≤ (v1).toInt ∧ (v1).toInt ≤ 10) (h_v2 : (0 : Int) ≤ (v2).toInt ∧ (v2).toInt ≤ 96) (h_v3 : (0 : Int) ≤ (v3).toInt ∧ (v3).toInt ≤ 99) (h_v4 : (0 : Int) ≤ (v4).toInt ∧ (v4).toInt ≤ 20) (h_v7 : (0 : Int) ≤ (v7).toInt ∧ (v7).toInt ≤ 39) (hm6 : 41 - (v7).toInt ≤ m6) : zok (Mo_couldCome_b67 N kh6 s0 v1 v2 v3 v4 v5 v7) (fun z => ((0 : Int) ≤ (z).toInt ∧ (z).toInt ≤ 1)) := by
  rw [Mo_couldCome_b67]
  have q1 : (0 : Int) ≤ ((zI s0 47)).toInt ∧ ((zI s0 47)).toInt ≤ 40 := (h_s0).1 47
  have q2 := li_1
  exact t_Mo_couldCome_b72 N hN kh6 m6 _ _ _ _ _ _ _ _  hkh6 h_s0 (show (1 : Int) ≤ ((zI s0 47)).toInt ∧ ((zI s0 47)).toInt ≤ 40 from ⟨by omega, by omega⟩) (show (0 : Int) ≤ (v1).toInt ∧ (v1).toInt ≤ 10 from ⟨by omega, by omega⟩) (show (0 : Int) ≤ (v2).toInt ∧ (v2).toInt ≤ 96 from ⟨by omega, by omega⟩) (show (0 : Int) ≤ (v3).toInt ∧ (v3).toInt ≤ 99 from ⟨by omega, by omega⟩) (show (0 : Int) ≤ (v4).toInt ∧ (v4).toInt ≤ 20 from ⟨by omega, by omega⟩) (show (0 : Int) ≤ (v7).toInt ∧ (v7).toInt ≤ 39 from ⟨by omega, by omega⟩) (show (0 : Int) ≤ ((1 : Int32)).toInt ∧ ((1 : Int32)).toInt ≤ 1 from ⟨by omega, by omega⟩) (show 41 - (v7).toInt ≤ m6 from by omega)
theorem t_Mo_couldCome_b57 (N : Nat) (hN : 50000000 ≤ N) (kh6 : Int32 → Int32 → Option (Int32)) (m6 : Int) (s0 : zSt) (v1 : Int32) (v2 : Int32) (v3 : Int32) (v4 : Int32) (v5 : Int32) (v7 : Int32) (t1 : Int32) (t2 : Int32) (t3 : Int32) (hkh6 : ∀ (v6 : Int32) (v7 : Int32), (0 : Int) ≤ (v6).toInt ∧ (v6).toInt ≤ 1 → (0 : Int) ≤ (v7).toInt ∧ (v7).toInt ≤ 40 → 41 - (v7).toInt ≤ m6 - 1 → zok (kh6 v6 v7) (fun z => ((0 : Int) ≤ (z).toInt ∧ (z).toInt ≤ 1))) (h_s0 : I_Mo s0) (h_s0_47 : (1 : Int) ≤ (zI s0 47).toInt ∧ (zI s0 47).toInt ≤ 40) (h_v1 : (0 : Int) ≤ (v1).toInt ∧ (v1).toInt ≤ 10) (h_v2 : (0 : Int) ≤ (v2).toInt ∧ (v2).toInt ≤ 96) (h_v3 : (0 : Int) ≤ (v3).toInt ∧ (v3).toInt ≤ 99) (h_v4 : (0 : Int) ≤ (v4).toInt ∧ (v4).toInt ≤ 20) (h_v7 : (0 : Int) ≤ (v7).toInt ∧ (v7).toInt ≤ 39) (h_t1 : (0 : Int) ≤ (t1).toInt ∧ (t1).toInt ≤ 39) (h_t2 : (0 : Int) ≤ (t2).toInt ∧ (t2).toInt ≤ 2047) (h_t3 : (0 : Int) ≤ (t3).toInt ∧ (t3).toInt ≤ 1500) (hm6 : 41 - (v7).toInt ≤ m6) : zok (Mo_couldCome_b57 N kh6 s0 v1 v2 v3 v4 v5 v7 t1 t2 t3) (fun z => ((0 : Int) ≤ (z).toInt ∧ (z).toInt ≤ 1)) := by
  rw [Mo_couldCome_b57]
  have q1 : (0 : Int) ≤ ((zI s0 47)).toInt ∧ ((zI s0 47)).toInt ≤ 40 := (h_s0).1 47
  have q2 := tor t2 t3 11 (by decide) (by omega) (by omega) (by omega) (by omega)
  refine zok_bind (t_Mo_isSo N hN s0 t1 (t2 ||| t3) v3 v4 h_s0 (show (1 : Int) ≤ ((zI s0 47)).toInt ∧ ((zI s0 47)).toInt ≤ 40 from ⟨by omega, by omega⟩) (show (0 : Int) ≤ (t1).toInt ∧ (t1).toInt ≤ 39 from ⟨by omega, by omega⟩) (show (0 : Int) ≤ ((t2 ||| t3)).toInt ∧ ((t2 ||| t3)).toInt ≤ 2047 from ⟨by omega, by omega⟩) (show (0 : Int) ≤ (v4).toInt ∧ (v4).toInt ≤ 20 from ⟨by omega, by omega⟩)) (fun z1 hz1 => ?_)
  have h_z1 := hz1
  have q4 := li_0
  refine zok_ite (fun c3 => ?_) (fun c3 => ?_)
  · have q5 : (z1).toInt = ((0 : Int32)).toInt := teq c3
    exact t_Mo_couldCome_b72 N hN kh6 m6 _ _ _ _ _ _ _ _  hkh6 h_s0 (show (1 : Int) ≤ ((zI s0 47)).toInt ∧ ((zI s0 47)).toInt ≤ 40 from ⟨by omega, by omega⟩) (show (0 : Int) ≤ (v1).toInt ∧ (v1).toInt ≤ 10 from ⟨by omega, by omega⟩) (show (0 : Int) ≤ (v2).toInt ∧ (v2).toInt ≤ 96 from ⟨by omega, by omega⟩) (show (0 : Int) ≤ (v3).toInt ∧ (v3).toInt ≤ 99 from ⟨by omega, by omega⟩) (show (0 : Int) ≤ (v4).toInt ∧ (v4).toInt ≤ 20 from ⟨by omega, by omega⟩) (show (0 : Int) ≤ (v7).toInt ∧ (v7).toInt ≤ 39 from ⟨by omega, by omega⟩) (show (0 : Int) ≤ ((0 : Int32)).toInt ∧ ((0 : Int32)).toInt ≤ 1 from ⟨by omega, by omega⟩) (show 41 - (v7).toInt ≤ m6 from by omega)
  · have q6 : (z1).toInt ≠ ((0 : Int32)).toInt := tneq c3
    exact t_Mo_couldCome_b67 N hN kh6 m6 _ _ _ _ _ _ _  hkh6 h_s0 (show (1 : Int) ≤ ((zI s0 47)).toInt ∧ ((zI s0 47)).toInt ≤ 40 from ⟨by omega, by omega⟩) (show (0 : Int) ≤ (v1).toInt ∧ (v1).toInt ≤ 10 from ⟨by omega, by omega⟩) (show (0 : Int) ≤ (v2).toInt ∧ (v2).toInt ≤ 96 from ⟨by omega, by omega⟩) (show (0 : Int) ≤ (v3).toInt ∧ (v3).toInt ≤ 99 from ⟨by omega, by omega⟩) (show (0 : Int) ≤ (v4).toInt ∧ (v4).toInt ≤ 20 from ⟨by omega, by omega⟩) (show (0 : Int) ≤ (v7).toInt ∧ (v7).toInt ≤ 39 from ⟨by omega, by omega⟩) (show 41 - (v7).toInt ≤ m6 from by omega)
theorem t_Mo_couldCome_b6 (N : Nat) (hN : 50000000 ≤ N) (kh6 : Int32 → Int32 → Option (Int32)) (m6 : Int) (s0 : zSt) (v1 : Int32) (v2 : Int32) (v3 : Int32) (v4 : Int32) (v5 : Int32) (v6 : Int32) (v7 : Int32) (hkh6 : ∀ (v6 : Int32) (v7 : Int32), (0 : Int) ≤ (v6).toInt ∧ (v6).toInt ≤ 1 → (0 : Int) ≤ (v7).toInt ∧ (v7).toInt ≤ 40 → 41 - (v7).toInt ≤ m6 - 1 → zok (kh6 v6 v7) (fun z => ((0 : Int) ≤ (z).toInt ∧ (z).toInt ≤ 1))) (h_s0 : I_Mo s0) (h_v1 : (0 : Int) ≤ (v1).toInt ∧ (v1).toInt ≤ 10) (h_v2 : (0 : Int) ≤ (v2).toInt ∧ (v2).toInt ≤ 96) (h_v3 : (0 : Int) ≤ (v3).toInt ∧ (v3).toInt ≤ 99) (h_v4 : (0 : Int) ≤ (v4).toInt ∧ (v4).toInt ≤ 20) (h_v6 : (0 : Int) ≤ (v6).toInt ∧ (v6).toInt ≤ 1) (h_v7 : (0 : Int) ≤ (v7).toInt ∧ (v7).toInt ≤ 40) (hm6 : 41 - (v7).toInt ≤ m6) : zok (Mo_couldCome_b6 N kh6 s0 v1 v2 v3 v4 v5 v6 v7) (fun z => ((0 : Int) ≤ (z).toInt ∧ (z).toInt ≤ 1)) := by
  rw [Mo_couldCome_b6]
  have q2 : (0 : Int) ≤ ((zI s0 47)).toInt ∧ ((zI s0 47)).toInt ≤ 40 := (h_s0).1 47
  refine zok_ite (fun c1 => ?_) (fun c1 => ?_)
  · have q3 : ((zI s0 47)).toInt ≤ (v7).toInt := tle c1
    refine zok_cb (t01 (by omega) (by omega)) ?_
    exact zok_some (show (0 : Int) ≤ (v6).toInt ∧ (v6).toInt ≤ 1 from ⟨by omega, by omega⟩)
  · have q4 : ((zI s0 47)).toInt > (v7).toInt := tnle c1
    have q6 := li_0
    refine zok_ite (fun c5 => ?_) (fun c5 => ?_)
    · have q7 : (v6).toInt = ((0 : Int32)).toInt := teq c5
      refine zok_cb (t01 (by omega) (by omega)) ?_
      exact zok_some (show (0 : Int) ≤ (v6).toInt ∧ (v6).toInt ≤ 1 from ⟨by omega, by omega⟩)
    · have q8 : (v6).toInt ≠ ((0 : Int32)).toInt := tneq c5
      refine zok_bind (t_Mo_counts N hN s0 v7 (0 : Int32) v5 h_s0 (show (0 : Int) ≤ (v7).toInt ∧ (v7).toInt ≤ 39 from ⟨by omega, by omega⟩) (show (0 : Int) ≤ ((0 : Int32)).toInt ∧ ((0 : Int32)).toInt ≤ 1 from ⟨by omega, by omega⟩)) (fun z5 hz5 => ?_)
      have h_z5 := hz5
      refine zok_ite (fun c9 => ?_) (fun c9 => ?_)
      · have q10 : (z5).toInt = ((0 : Int32)).toInt := teq c9
        exact t_Mo_couldCome_b67 N hN kh6 m6 _ _ _ _ _ _ _  hkh6 h_s0 (show (1 : Int) ≤ ((zI s0 47)).toInt ∧ ((zI s0 47)).toInt ≤ 40 from ⟨by omega, by omega⟩) (show (0 : Int) ≤ (v1).toInt ∧ (v1).toInt ≤ 10 from ⟨by omega, by omega⟩) (show (0 : Int) ≤ (v2).toInt ∧ (v2).toInt ≤ 96 from ⟨by omega, by omega⟩) (show (0 : Int) ≤ (v3).toInt ∧ (v3).toInt ≤ 99 from ⟨by omega, by omega⟩) (show (0 : Int) ≤ (v4).toInt ∧ (v4).toInt ≤ 20 from ⟨by omega, by omega⟩) (show (0 : Int) ≤ (v7).toInt ∧ (v7).toInt ≤ 39 from ⟨by omega, by omega⟩) (show 41 - (v7).toInt ≤ m6 from by omega)
      · have q11 : (z5).toInt ≠ ((0 : Int32)).toInt := tneq c9
        refine zok_bind (t_Mo_beastSet N hN s0 h_s0) (fun z8 hz8 => ?_)
        have h_z8 := hz8
        refine zok_ck (show vp_in v7 40 from vin (by omega) (by omega)) ?_
        have q13 := tr ((zA s0 40) (Int32.toNatClampNeg v7))
        refine zok_ite (fun c12 => ?_) (fun c12 => ?_)
        · have q14 : (((zA s0 40) (Int32.toNatClampNeg v7))).toInt < (v2).toInt := tlt c12
          exact t_Mo_couldCome_b57 N hN kh6 m6 _ _ _ _ _ _ _ _ _ _  hkh6 h_s0 (show (1 : Int) ≤ ((zI s0 47)).toInt ∧ ((zI s0 47)).toInt ≤ 40 from ⟨by omega, by omega⟩) (show (0 : Int) ≤ (v1).toInt ∧ (v1).toInt ≤ 10 from ⟨by omega, by omega⟩) (show (0 : Int) ≤ (v2).toInt ∧ (v2).toInt ≤ 96 from ⟨by omega, by omega⟩) (show (0 : Int) ≤ (v3).toInt ∧ (v3).toInt ≤ 99 from ⟨by omega, by omega⟩) (show (0 : Int) ≤ (v4).toInt ∧ (v4).toInt ≤ 20 from ⟨by omega, by omega⟩) (show (0 : Int) ≤ (v7).toInt ∧ (v7).toInt ≤ 39 from ⟨by omega, by omega⟩) (show (0 : Int) ≤ (v7).toInt ∧ (v7).toInt ≤ 39 from ⟨by omega, by omega⟩) (show (0 : Int) ≤ (z8).toInt ∧ (z8).toInt ≤ 2047 from ⟨by omega, by omega⟩) (show (0 : Int) ≤ ((0 : Int32)).toInt ∧ ((0 : Int32)).toInt ≤ 1500 from ⟨by omega, by omega⟩) (show 41 - (v7).toInt ≤ m6 from by omega)
        · have q15 : (((zA s0 40) (Int32.toNatClampNeg v7))).toInt ≥ (v2).toInt := tnlt c12
          have q16 := tshl v1 10 (by decide) (by omega) (by omega)
          exact t_Mo_couldCome_b57 N hN kh6 m6 _ _ _ _ _ _ _ _ _ _  hkh6 h_s0 (show (1 : Int) ≤ ((zI s0 47)).toInt ∧ ((zI s0 47)).toInt ≤ 40 from ⟨by omega, by omega⟩) (show (0 : Int) ≤ (v1).toInt ∧ (v1).toInt ≤ 10 from ⟨by omega, by omega⟩) (show (0 : Int) ≤ (v2).toInt ∧ (v2).toInt ≤ 96 from ⟨by omega, by omega⟩) (show (0 : Int) ≤ (v3).toInt ∧ (v3).toInt ≤ 99 from ⟨by omega, by omega⟩) (show (0 : Int) ≤ (v4).toInt ∧ (v4).toInt ≤ 20 from ⟨by omega, by omega⟩) (show (0 : Int) ≤ (v7).toInt ∧ (v7).toInt ≤ 39 from ⟨by omega, by omega⟩) (show (0 : Int) ≤ (v7).toInt ∧ (v7).toInt ≤ 39 from ⟨by omega, by omega⟩) (show (0 : Int) ≤ (z8).toInt ∧ (z8).toInt ≤ 2047 from ⟨by omega, by omega⟩) (show (0 : Int) ≤ (((1 : Int32) <<< (v1 &&& (31 : Int32)))).toInt ∧ (((1 : Int32) <<< (v1 &&& (31 : Int32)))).toInt ≤ 1500 from ⟨by omega, by omega⟩) (show 41 - (v7).toInt ≤ m6 from by omega)
theorem t_Mo_couldCome_h6 (N : Nat) (hN : 50000000 ≤ N) (s0 : zSt) (v1 : Int32) (v2 : Int32) (v3 : Int32) (v4 : Int32) (v5 : Int32) (h_s0 : I_Mo s0) (h_v1 : (0 : Int) ≤ (v1).toInt ∧ (v1).toInt ≤ 10) (h_v2 : (0 : Int) ≤ (v2).toInt ∧ (v2).toInt ≤ 96) (h_v3 : (0 : Int) ≤ (v3).toInt ∧ (v3).toInt ≤ 99) (h_v4 : (0 : Int) ≤ (v4).toInt ∧ (v4).toInt ≤ 20) : ∀ (n : Nat) (v6 : Int32) (v7 : Int32), (0 : Int) ≤ (v6).toInt ∧ (v6).toInt ≤ 1 → (0 : Int) ≤ (v7).toInt ∧ (v7).toInt ≤ 40 → 41 - (v7).toInt ≤ (n : Int) → zok (Mo_couldCome_h6 N s0 v1 v2 v3 v4 v5 n v6 v7) (fun z => ((0 : Int) ≤ (z).toInt ∧ (z).toInt ≤ 1))
  | 0, v6, v7, h_v6, h_v7, hm => absurd hm (by omega)
  | n + 1, v6, v7, h_v6, h_v7, hm => by
    rw [Mo_couldCome_h6_s]
    exact t_Mo_couldCome_b6 N hN (Mo_couldCome_h6 N s0 v1 v2 v3 v4 v5 n) ((n + 1 : Nat) : Int) s0 v1 v2 v3 v4 v5 v6 v7  (fun v6 v7 h_v6 h_v7 q => t_Mo_couldCome_h6 N hN  s0 v1 v2 v3 v4 v5   h_s0 h_v1 h_v2 h_v3 h_v4   n v6 v7 h_v6 h_v7 (by omega)) h_s0 h_v1 h_v2 h_v3 h_v4 h_v6 h_v7  hm
theorem t_Mo_couldCome_b0 (N : Nat) (hN : 50000000 ≤ N) (s0 : zSt) (v1 : Int32) (v2 : Int32) (v3 : Int32) (v4 : Int32) (v5 : Int32) (h_s0 : I_Mo s0) (h_v1 : (0 : Int) ≤ (v1).toInt ∧ (v1).toInt ≤ 10) (h_v2 : (0 : Int) ≤ (v2).toInt ∧ (v2).toInt ≤ 96) (h_v3 : (0 : Int) ≤ (v3).toInt ∧ (v3).toInt ≤ 99) (h_v4 : (0 : Int) ≤ (v4).toInt ∧ (v4).toInt ≤ 20) : zok (Mo_couldCome_b0 N s0 v1 v2 v3 v4 v5) (fun z => ((0 : Int) ≤ (z).toInt ∧ (z).toInt ≤ 1)) := by
  rw [Mo_couldCome_b0]
  have q1 := li_1
  have q2 := li_0
  exact t_Mo_couldCome_h6 N hN  _ _ _ _ _ _   h_s0 (show (0 : Int) ≤ (v1).toInt ∧ (v1).toInt ≤ 10 from ⟨by omega, by omega⟩) (show (0 : Int) ≤ (v2).toInt ∧ (v2).toInt ≤ 96 from ⟨by omega, by omega⟩) (show (0 : Int) ≤ (v3).toInt ∧ (v3).toInt ≤ 99 from ⟨by omega, by omega⟩) (show (0 : Int) ≤ (v4).toInt ∧ (v4).toInt ≤ 20 from ⟨by omega, by omega⟩)  N _ _ (show (0 : Int) ≤ ((1 : Int32)).toInt ∧ ((1 : Int32)).toInt ≤ 1 from ⟨by omega, by omega⟩) (show (0 : Int) ≤ ((0 : Int32)).toInt ∧ ((0 : Int32)).toInt ≤ 40 from ⟨by omega, by omega⟩) (show 41 - ((0 : Int32)).toInt ≤ (N : Int) from by omega)
theorem t_Mo_couldCome (N : Nat) (hN : 50000000 ≤ N) (s0 : zSt) (v1 : Int32) (v2 : Int32) (v3 : Int32) (v4 : Int32) (v5 : Int32) (h_s0 : I_Mo s0) (h_v1 : (0 : Int) ≤ (v1).toInt ∧ (v1).toInt ≤ 10) (h_v2 : (0 : Int) ≤ (v2).toInt ∧ (v2).toInt ≤ 96) (h_v3 : (0 : Int) ≤ (v3).toInt ∧ (v3).toInt ≤ 99) (h_v4 : (0 : Int) ≤ (v4).toInt ∧ (v4).toInt ≤ 20) : zok (Mo_couldCome N s0 v1 v2 v3 v4 v5) (fun z => ((0 : Int) ≤ (z).toInt ∧ (z).toInt ≤ 1)) :=
  t_Mo_couldCome_b0 N hN s0 v1 v2 v3 v4 v5  h_s0 h_v1 h_v2 h_v3 h_v4 
theorem t_Mo_came_b101 (N : Nat) (hN : 50000000 ≤ N) (kh56 : Int32 → Int32 → Int32 → Int32 → Option (Int32)) (m56 : Int) (s0 : zSt) (v1 : Int32) (v2 : Int32) (v3 : Int32) (v4 : Int32) (v5 : Int32) (v6 : Int32) (v7 : Int32) (v8 : Int32) (v9 : Int32) (hkh56 : ∀ (v6 : Int32) (v7 : Int32) (v8 : Int32) (v9 : Int32), (-1 : Int) ≤ (v7).toInt ∧ (v7).toInt ≤ 96 → (-1 : Int) ≤ (v8).toInt ∧ (v8).toInt ≤ 96 → (0 : Int) ≤ (v9).toInt ∧ (v9).toInt ≤ 97 → 98 - (v9).toInt ≤ m56 - 1 → zok (kh56 v6 v7 v8 v9) (fun z => True)) (h_s0 : I_Mo s0) (h_v1 : (0 : Int) ≤ (v1).toInt ∧ (v1).toInt ≤ 10) (h_v2 : (0 : Int) ≤ (v2).toInt ∧ (v2).toInt ≤ 99) (h_v3 : (0 : Int) ≤ (v3).toInt ∧ (v3).toInt ≤ 20) (h_v4 : (0 : Int) ≤ (v4).toInt ∧ (v4).toInt ≤ 2) (h_v7 : (-1 : Int) ≤ (v7).toInt ∧ (v7).toInt ≤ 96) (h_v8 : (-1 : Int) ≤ (v8).toInt ∧ (v8).toInt ≤ 96) (h_v9 : (0 : Int) ≤ (v9).toInt ∧ (v9).toInt ≤ 96) (hm56 : 98 - (v9).toInt ≤ m56) : zok (Mo_came_b101 N kh56 s0 v1 v2 v3 v4 v5 v6 v7 v8 v9) (fun z => True) := by
  rw [Mo_came_b101]
  have q1 := li_1
  have q2 := tadd v9 (1 : Int32) (by omega) (by omega)
  exact hkh56 _ _ _ _ (show (-1 : Int) ≤ (v7).toInt ∧ (v7).toInt ≤ 96 from ⟨by omega, by omega⟩) (show (-1 : Int) ≤ (v8).toInt ∧ (v8).toInt ≤ 96 from ⟨by omega, by omega⟩) (show (0 : Int) ≤ ((v9 + (1 : Int32))).toInt ∧ ((v9 + (1 : Int32))).toInt ≤ 97 from ⟨by omega, by omega⟩) (show 98 - ((v9 + (1 : Int32))).toInt ≤ m56 - 1 by omega)
theorem t_Mo_came_b95 (N : Nat) (hN : 50000000 ≤ N) (kh56 : Int32 → Int32 → Int32 → Int32 → Option (Int32)) (m56 : Int) (s0 : zSt) (v1 : Int32) (v2 : Int32) (v3 : Int32) (v4 : Int32) (v5 : Int32) (v6 : Int32) (v9 : Int32) (t0 : Int32) (hkh56 : ∀ (v6 : Int32) (v7 : Int32) (v8 : Int32) (v9 : Int32), (-1 : Int) ≤ (v7).toInt ∧ (v7).toInt ≤ 96 → (-1 : Int) ≤ (v8).toInt ∧ (v8).toInt ≤ 96 → (0 : Int) ≤ (v9).toInt ∧ (v9).toInt ≤ 97 → 98 - (v9).toInt ≤ m56 - 1 → zok (kh56 v6 v7 v8 v9) (fun z => True)) (h_s0 : I_Mo s0) (h_v1 : (0 : Int) ≤ (v1).toInt ∧ (v1).toInt ≤ 10) (h_v2 : (0 : Int) ≤ (v2).toInt ∧ (v2).toInt ≤ 99) (h_v3 : (0 : Int) ≤ (v3).toInt ∧ (v3).toInt ≤ 20) (h_v4 : (0 : Int) ≤ (v4).toInt ∧ (v4).toInt ≤ 2) (h_v9 : (0 : Int) ≤ (v9).toInt ∧ (v9).toInt ≤ 96) (h_t0 : (0 : Int) ≤ (t0).toInt ∧ (t0).toInt ≤ 96) (hm56 : 98 - (v9).toInt ≤ m56) : zok (Mo_came_b95 N kh56 s0 v1 v2 v3 v4 v5 v6 v9 t0) (fun z => True) := by
  rw [Mo_came_b95]
  exact t_Mo_came_b101 N hN kh56 m56 _ _ _ _ _ _ _ _ _ _  hkh56 h_s0 (show (0 : Int) ≤ (v1).toInt ∧ (v1).toInt ≤ 10 from ⟨by omega, by omega⟩) (show (0 : Int) ≤ (v2).toInt ∧ (v2).toInt ≤ 99 from ⟨by omega, by omega⟩) (show (0 : Int) ≤ (v3).toInt ∧ (v3).toInt ≤ 20 from ⟨by omega, by omega⟩) (show (0 : Int) ≤ (v4).toInt ∧ (v4).toInt ≤ 2 from ⟨by omega, by omega⟩) (show (-1 : Int) ≤ (t0).toInt ∧ (t0).toInt ≤ 96 from ⟨by omega, by omega⟩) (show (-1 : Int) ≤ (v9).toInt ∧ (v9).toInt ≤ 96 from ⟨by omega, by omega⟩) (show (0 : Int) ≤ (v9).toInt ∧ (v9).toInt ≤ 96 from ⟨by omega, by omega⟩) (show 98 - (v9).toInt ≤ m56 from by omega)
theorem t_Mo_came_b56 (N : Nat) (hN : 50000000 ≤ N) (kh56 : Int32 → Int32 → Int32 → Int32 → Option (Int32)) (m56 : Int) (s0 : zSt) (v1 : Int32) (v2 : Int32) (v3 : Int32) (v4 : Int32) (v5 : Int32) (v6 : Int32) (v7 : Int32) (v8 : Int32) (v9 : Int32) (hkh56 : ∀ (v6 : Int32) (v7 : Int32) (v8 : Int32) (v9 : Int32), (-1 : Int) ≤ (v7).toInt ∧ (v7).toInt ≤ 96 → (-1 : Int) ≤ (v8).toInt ∧ (v8).toInt ≤ 96 → (0 : Int) ≤ (v9).toInt ∧ (v9).toInt ≤ 97 → 98 - (v9).toInt ≤ m56 - 1 → zok (kh56 v6 v7 v8 v9) (fun z => True)) (h_s0 : I_Mo s0) (h_v1 : (0 : Int) ≤ (v1).toInt ∧ (v1).toInt ≤ 10) (h_v2 : (0 : Int) ≤ (v2).toInt ∧ (v2).toInt ≤ 99) (h_v3 : (0 : Int) ≤ (v3).toInt ∧ (v3).toInt ≤ 20) (h_v4 : (0 : Int) ≤ (v4).toInt ∧ (v4).toInt ≤ 2) (h_v7 : (-1 : Int) ≤ (v7).toInt ∧ (v7).toInt ≤ 96) (h_v8 : (-1 : Int) ≤ (v8).toInt ∧ (v8).toInt ≤ 96) (h_v9 : (0 : Int) ≤ (v9).toInt ∧ (v9).toInt ≤ 97) (hm56 : 98 - (v9).toInt ≤ m56) : zok (Mo_came_b56 N kh56 s0 v1 v2 v3 v4 v5 v6 v7 v8 v9) (fun z => True) := by
  rw [Mo_came_b56]
  have q2 := li_96
  refine zok_ite (fun c1 => ?_) (fun c1 => ?_)
  · have q3 : ((96 : Int32)).toInt < (v9).toInt := tlt c1
    have q5 := li_0
    refine zok_ite (fun c4 => ?_) (fun c4 => ?_)
    · have q6 : (v4).toInt = ((0 : Int32)).toInt := teq c4
      exact zok_some trivial
    · have q7 : (v4).toInt ≠ ((0 : Int32)).toInt := tneq c4
      have q9 := li_1
      refine zok_ite (fun c8 => ?_) (fun c8 => ?_)
      · have q10 : (v4).toInt = ((1 : Int32)).toInt := teq c8
        exact zok_some trivial
      · have q11 : (v4).toInt ≠ ((1 : Int32)).toInt := tneq c8
        exact zok_some trivial
  · have q12 : ((96 : Int32)).toInt ≥ (v9).toInt := tnlt c1
    refine zok_bind (t_Mo_couldCome N hN s0 v1 v9 v2 v3 v5 h_s0 (show (0 : Int) ≤ (v1).toInt ∧ (v1).toInt ≤ 10 from ⟨by omega, by omega⟩) (show (0 : Int) ≤ (v9).toInt ∧ (v9).toInt ≤ 96 from ⟨by omega, by omega⟩) (show (0 : Int) ≤ (v2).toInt ∧ (v2).toInt ≤ 99 from ⟨by omega, by omega⟩) (show (0 : Int) ≤ (v3).toInt ∧ (v3).toInt ≤ 20 from ⟨by omega, by omega⟩)) (fun z4 hz4 => ?_)
    have h_z4 := hz4
    have q14 := li_0
    refine zok_ite (fun c13 => ?_) (fun c13 => ?_)
    · have q15 : (z4).toInt = ((0 : Int32)).toInt := teq c13
      exact t_Mo_came_b101 N hN kh56 m56 _ _ _ _ _ _ _ _ _ _  hkh56 h_s0 (show (0 : Int) ≤ (v1).toInt ∧ (v1).toInt ≤ 10 from ⟨by omega, by omega⟩) (show (0 : Int) ≤ (v2).toInt ∧ (v2).toInt ≤ 99 from ⟨by omega, by omega⟩) (show (0 : Int) ≤ (v3).toInt ∧ (v3).toInt ≤ 20 from ⟨by omega, by omega⟩) (show (0 : Int) ≤ (v4).toInt ∧ (v4).toInt ≤ 2 from ⟨by omega, by omega⟩) (show (-1 : Int) ≤ (v7).toInt ∧ (v7).toInt ≤ 96 from ⟨by omega, by omega⟩) (show (-1 : Int) ≤ (v8).toInt ∧ (v8).toInt ≤ 96 from ⟨by omega, by omega⟩) (show (0 : Int) ≤ (v9).toInt ∧ (v9).toInt ≤ 96 from ⟨by omega, by omega⟩) (show 98 - (v9).toInt ≤ m56 from by omega)
    · have q16 : (z4).toInt ≠ ((0 : Int32)).toInt := tneq c13
      refine zok_ite (fun c17 => ?_) (fun c17 => ?_)
      · have q18 : ((0 : Int32)).toInt ≤ (v7).toInt := tle c17
        exact t_Mo_came_b95 N hN kh56 m56 _ _ _ _ _ _ _ _ _  hkh56 h_s0 (show (0 : Int) ≤ (v1).toInt ∧ (v1).toInt ≤ 10 from ⟨by omega, by omega⟩) (show (0 : Int) ≤ (v2).toInt ∧ (v2).toInt ≤ 99 from ⟨by omega, by omega⟩) (show (0 : Int) ≤ (v3).toInt ∧ (v3).toInt ≤ 20 from ⟨by omega, by omega⟩) (show (0 : Int) ≤ (v4).toInt ∧ (v4).toInt ≤ 2 from ⟨by omega, by omega⟩) (show (0 : Int) ≤ (v9).toInt ∧ (v9).toInt ≤ 96 from ⟨by omega, by omega⟩) (show (0 : Int) ≤ (v7).toInt ∧ (v7).toInt ≤ 96 from ⟨by omega, by omega⟩) (show 98 - (v9).toInt ≤ m56 from by omega)
      · have q19 : ((0 : Int32)).toInt > (v7).toInt := tnle c17
        exact t_Mo_came_b95 N hN kh56 m56 _ _ _ _ _ _ _ _ _  hkh56 h_s0 (show (0 : Int) ≤ (v1).toInt ∧ (v1).toInt ≤ 10 from ⟨by omega, by omega⟩) (show (0 : Int) ≤ (v2).toInt ∧ (v2).toInt ≤ 99 from ⟨by omega, by omega⟩) (show (0 : Int) ≤ (v3).toInt ∧ (v3).toInt ≤ 20 from ⟨by omega, by omega⟩) (show (0 : Int) ≤ (v4).toInt ∧ (v4).toInt ≤ 2 from ⟨by omega, by omega⟩) (show (0 : Int) ≤ (v9).toInt ∧ (v9).toInt ≤ 96 from ⟨by omega, by omega⟩) (show (0 : Int) ≤ (v9).toInt ∧ (v9).toInt ≤ 96 from ⟨by omega, by omega⟩) (show 98 - (v9).toInt ≤ m56 from by omega)
theorem t_Mo_came_h56 (N : Nat) (hN : 50000000 ≤ N) (s0 : zSt) (v1 : Int32) (v2 : Int32) (v3 : Int32) (v4 : Int32) (v5 : Int32) (h_s0 : I_Mo s0) (h_v1 : (0 : Int) ≤ (v1).toInt ∧ (v1).toInt ≤ 10) (h_v2 : (0 : Int) ≤ (v2).toInt ∧ (v2).toInt ≤ 99) (h_v3 : (0 : Int) ≤ (v3).toInt ∧ (v3).toInt ≤ 20) (h_v4 : (0 : Int) ≤ (v4).toInt ∧ (v4).toInt ≤ 2) : ∀ (n : Nat) (v6 : Int32) (v7 : Int32) (v8 : Int32) (v9 : Int32), (-1 : Int) ≤ (v7).toInt ∧ (v7).toInt ≤ 96 → (-1 : Int) ≤ (v8).toInt ∧ (v8).toInt ≤ 96 → (0 : Int) ≤ (v9).toInt ∧ (v9).toInt ≤ 97 → 98 - (v9).toInt ≤ (n : Int) → zok (Mo_came_h56 N s0 v1 v2 v3 v4 v5 n v6 v7 v8 v9) (fun z => True)
  | 0, v6, v7, v8, v9, h_v7, h_v8, h_v9, hm => absurd hm (by omega)
  | n + 1, v6, v7, v8, v9, h_v7, h_v8, h_v9, hm => by
    rw [Mo_came_h56_s]
    exact t_Mo_came_b56 N hN (Mo_came_h56 N s0 v1 v2 v3 v4 v5 n) ((n + 1 : Nat) : Int) s0 v1 v2 v3 v4 v5 v6 v7 v8 v9  (fun v6 v7 v8 v9 h_v7 h_v8 h_v9 q => t_Mo_came_h56 N hN  s0 v1 v2 v3 v4 v5   h_s0 h_v1 h_v2 h_v3 h_v4   n v6 v7 v8 v9 h_v7 h_v8 h_v9 (by omega)) h_s0 h_v1 h_v2 h_v3 h_v4 h_v7 h_v8 h_v9  hm
theorem t_Mo_came_b0 (N : Nat) (hN : 50000000 ≤ N) (s0 : zSt) (v1 : Int32) (v2 : Int32) (v3 : Int32) (v4 : Int32) (v5 : Int32) (h_s0 : I_Mo s0) : zok (Mo_came_b0 N s0 v1 v2 v3 v4 v5) (fun z => True) := by
  rw [Mo_came_b0]
  rcases u_Mo_isBell N s0 v1  with w1 | ⟨w1, w1_0, w1_1⟩ <;> rw [w1, zbs]
  · refine zok_t (by decide) ?_
    exact zok_some trivial
  · have q2 := li_0
    have q3 := tr v1
    have q4 : ((0 : Int32)).toInt ≤ (v1).toInt := w1_0
    have q5 : (0 : Int) ≤ ((zI s0 29)).toInt ∧ ((zI s0 29)).toInt ≤ 11 := (h_s0).1 29
    have q6 := li_1
    have q7 := tsub (zI s0 29) (1 : Int32) (by omega) (by omega)
    have q8 : (v1).toInt ≤ (((zI s0 29) - (1 : Int32))).toInt := w1_1
    refine zok_f (by decide) ?_
    refine zok_ck (show vp_in v1 11 from vin (by omega) (by omega)) ?_
    have q10 := tr ((zA s0 18) (Int32.toNatClampNeg v1))
    refine zok_ite (fun c9 => ?_) (fun c9 => ?_)
    · have q11 : ((0 : Int32)).toInt ≤ (((zA s0 18) (Int32.toNatClampNeg v1))).toInt := tle c9
      exact zok_some trivial
    · have q12 : ((0 : Int32)).toInt > (((zA s0 18) (Int32.toNatClampNeg v1))).toInt := tnle c9
      rcases u_Mo_isPlace N v2  with w13 | ⟨w13, w13_0, w13_1⟩ <;> rw [w13, zbs]
      · refine zok_t (by decide) ?_
        exact zok_some trivial
      · have q14 := tr v2
        have q15 : ((0 : Int32)).toInt ≤ (v2).toInt := w13_0
        have q16 := li_99
        have q17 : (v2).toInt ≤ ((99 : Int32)).toInt := w13_1
        refine zok_f (by decide) ?_
        rcases u_Mo_isWind N v3  with w18 | ⟨w18, w18_0, w18_1⟩ <;> rw [w18, zbs]
        · refine zok_t (by decide) ?_
          exact zok_some trivial
        · have q19 := tr v3
          have q20 : ((0 : Int32)).toInt ≤ (v3).toInt := w18_0
          have q21 := li_20
          have q22 : (v3).toInt ≤ ((20 : Int32)).toInt := w18_1
          refine zok_f (by decide) ?_
          have q23 := li_2
          rcases u_Mo_isIn N v4 (0 : Int32) (2 : Int32)  with w24 | ⟨w24, w24_0, w24_1⟩ <;> rw [w24, zbs]
          · refine zok_t (by decide) ?_
            exact zok_some trivial
          · have q25 := tr v4
            have q26 : ((0 : Int32)).toInt ≤ (v4).toInt := w24_0
            have q27 : (v4).toInt ≤ ((2 : Int32)).toInt := w24_1
            refine zok_f (by decide) ?_
            have q28 := li_m1
            exact t_Mo_came_h56 N hN  _ _ _ _ _ _   h_s0 (show (0 : Int) ≤ (v1).toInt ∧ (v1).toInt ≤ 10 from ⟨by omega, by omega⟩) (show (0 : Int) ≤ (v2).toInt ∧ (v2).toInt ≤ 99 from ⟨by omega, by omega⟩) (show (0 : Int) ≤ (v3).toInt ∧ (v3).toInt ≤ 20 from ⟨by omega, by omega⟩) (show (0 : Int) ≤ (v4).toInt ∧ (v4).toInt ≤ 2 from ⟨by omega, by omega⟩)  N _ _ _ _ (show (-1 : Int) ≤ (((-1) : Int32)).toInt ∧ (((-1) : Int32)).toInt ≤ 96 from ⟨by omega, by omega⟩) (show (-1 : Int) ≤ (((-1) : Int32)).toInt ∧ (((-1) : Int32)).toInt ≤ 96 from ⟨by omega, by omega⟩) (show (0 : Int) ≤ ((0 : Int32)).toInt ∧ ((0 : Int32)).toInt ≤ 97 from ⟨by omega, by omega⟩) (show 98 - ((0 : Int32)).toInt ≤ (N : Int) from by omega)
