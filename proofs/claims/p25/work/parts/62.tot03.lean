theorem t_CH_came_h64 (N : Nat) (hN : 50000000 ≤ N) (s0 : zSt) (s1 : zSt) (s2 : zSt) (v1 : Int32) (v2 : Int32) (v3 : Int32) (v4 : Int32) (v5 : Int32) (h_s0 : I_CH s0) (h_s1 : I_Valley s1) (h_s2 : I_Entries s2) (h_v1 : (0 : Int) ≤ (v1).toInt ∧ (v1).toInt ≤ 10) (h_v2 : (0 : Int) ≤ (v2).toInt ∧ (v2).toInt ≤ 99) (h_v3 : (0 : Int) ≤ (v3).toInt ∧ (v3).toInt ≤ 20) (h_v4 : (0 : Int) ≤ (v4).toInt ∧ (v4).toInt ≤ 2) : ∀ (n : Nat) (v6 : Int32) (v7 : Int32) (v8 : Int32), (0 : Int) ≤ (v8).toInt ∧ (v8).toInt ≤ 40 → 41 - (v8).toInt ≤ (n : Int) → zok (CH_came_h64 N s0 s1 s2 v1 v2 v3 v4 v5 n v6 v7 v8) (fun z => True)
  | 0, v6, v7, v8, h_v8, hm => absurd hm (by omega)
  | n + 1, v6, v7, v8, h_v8, hm => by
    rw [CH_came_h64_s]
    exact t_CH_came_b64 N hN (CH_came_h64 N s0 s1 s2 v1 v2 v3 v4 v5 n) ((n + 1 : Nat) : Int) s0 s1 s2 v1 v2 v3 v4 v5 v6 v7 v8  (fun v6 v7 v8 h_v8 q => t_CH_came_h64 N hN  s0 s1 s2 v1 v2 v3 v4 v5   h_s0 h_s1 h_s2 h_v1 h_v2 h_v3 h_v4   n v6 v7 v8 h_v8 (by omega)) h_s0 h_s1 h_s2 h_v1 h_v2 h_v3 h_v4 h_v8  hm
theorem t_CH_came_b0 (N : Nat) (hN : 50000000 ≤ N) (s0 : zSt) (s1 : zSt) (s2 : zSt) (v1 : Int32) (v2 : Int32) (v3 : Int32) (v4 : Int32) (v5 : Int32) (h_s0 : I_CH s0) (h_s1 : I_Valley s1) (h_s2 : I_Entries s2) : zok (CH_came_b0 N s0 s1 s2 v1 v2 v3 v4 v5) (fun z => True) := by
  rw [CH_came_b0]
  rcases u_Valley_hasBell N s1 v1  with w1 | ⟨w1, w1_0, w1_1⟩ <;> rw [w1, zbs]
  · refine zok_t (by decide) ?_
    exact zok_some trivial
  · have q2 := li_0
    have q3 := tr v1
    have q4 : ((0 : Int32)).toInt ≤ (v1).toInt := w1_0
    have q5 : (0 : Int) ≤ ((zI s1 3)).toInt ∧ ((zI s1 3)).toInt ≤ 11 := (h_s1).1 3
    have q6 := li_1
    have q7 := tsub (zI s1 3) (1 : Int32) (by omega) (by omega)
    have q8 : (v1).toInt ≤ (((zI s1 3) - (1 : Int32))).toInt := w1_1
    refine zok_f (by decide) ?_
    refine zok_ck (show vp_in v1 11 from vin (by omega) (by omega)) ?_
    have q10 : (-1 : Int) ≤ (((zA s1 7) (Int32.toNatClampNeg v1))).toInt ∧ (((zA s1 7) (Int32.toNatClampNeg v1))).toInt ≤ 2 := (h_s1).2 7 _
    have q11 := li_m1
    refine zok_ite (fun c9 => ?_) (fun c9 => ?_)
    · have q12 : (((zA s1 7) (Int32.toNatClampNeg v1))).toInt = (((-1) : Int32)).toInt := teq c9
      rcases u_CH_isPlace N v2  with w13 | ⟨w13, w13_0, w13_1⟩ <;> rw [w13, zbs]
      · refine zok_t (by decide) ?_
        exact zok_some trivial
      · have q14 := tr v2
        have q15 : ((0 : Int32)).toInt ≤ (v2).toInt := w13_0
        have q16 := li_99
        have q17 : (v2).toInt ≤ ((99 : Int32)).toInt := w13_1
        refine zok_f (by decide) ?_
        rcases u_CH_isWind N v3  with w18 | ⟨w18, w18_0, w18_1⟩ <;> rw [w18, zbs]
        · refine zok_t (by decide) ?_
          exact zok_some trivial
        · have q19 := tr v3
          have q20 : ((0 : Int32)).toInt ≤ (v3).toInt := w18_0
          have q21 := li_20
          have q22 : (v3).toInt ≤ ((20 : Int32)).toInt := w18_1
          refine zok_f (by decide) ?_
          rcases u_CH_within N v4 (0 : Int32) (2 : Int32)  with w23 | ⟨w23, w23_0, w23_1⟩ <;> rw [w23, zbs]
          · refine zok_t (by decide) ?_
            exact zok_some trivial
          · have q24 := tr v4
            have q25 : ((0 : Int32)).toInt ≤ (v4).toInt := w23_0
            have q26 := li_2
            have q27 : (v4).toInt ≤ ((2 : Int32)).toInt := w23_1
            refine zok_f (by decide) ?_
            exact t_CH_came_h64 N hN  _ _ _ _ _ _ _ _   h_s0 h_s1 h_s2 (show (0 : Int) ≤ (v1).toInt ∧ (v1).toInt ≤ 10 from ⟨by omega, by omega⟩) (show (0 : Int) ≤ (v2).toInt ∧ (v2).toInt ≤ 99 from ⟨by omega, by omega⟩) (show (0 : Int) ≤ (v3).toInt ∧ (v3).toInt ≤ 20 from ⟨by omega, by omega⟩) (show (0 : Int) ≤ (v4).toInt ∧ (v4).toInt ≤ 2 from ⟨by omega, by omega⟩)  N _ _ _ (show (0 : Int) ≤ ((0 : Int32)).toInt ∧ ((0 : Int32)).toInt ≤ 40 from ⟨by omega, by omega⟩) (show 41 - ((0 : Int32)).toInt ≤ (N : Int) from by omega)
    · have q28 : (((zA s1 7) (Int32.toNatClampNeg v1))).toInt ≠ (((-1) : Int32)).toInt := tneq c9
      exact zok_some trivial
theorem t_CH_came (N : Nat) (hN : 50000000 ≤ N) (s0 : zSt) (s1 : zSt) (s2 : zSt) (v1 : Int32) (v2 : Int32) (v3 : Int32) (v4 : Int32) (v5 : Int32) (h_s0 : I_CH s0) (h_s1 : I_Valley s1) (h_s2 : I_Entries s2) : zok (CH_came N s0 s1 s2 v1 v2 v3 v4 v5) (fun z => True) :=
  t_CH_came_b0 N hN s0 s1 s2 v1 v2 v3 v4 v5  h_s0 h_s1 h_s2 
theorem t_CH_cracked_b0 (N : Nat) (hN : 50000000 ≤ N) (s0 : zSt) (s1 : zSt) (s2 : zSt) (s3 : zSt) (v1 : Int32) (gs0 gs2 : zSt) (h_s0 : I_CH s0) (h_s1 : I_Valley s1) (h_s2 : I_Creeps s2) (h_s3 : I_Entries s3) (g_s0 : Fr [11] [10] s0 gs0) (g_s2 : Fr [0, 2, 8] [1, 3, 4, 5, 6, 7] s2 gs2) : zok (CH_cracked_b0 N s0 s1 s2 s3 v1) (fun z => ((-2 : Int) ≤ (z.1).toInt ∧ (z.1).toInt ≤ 16) ∧ I_CH z.2.1 ∧ Fr [11] [10] z.2.1 gs0 ∧ I_Creeps z.2.2 ∧ Fr [0, 2, 8] [1, 3, 4, 5, 6, 7] z.2.2 gs2) := by
  rw [CH_cracked_b0]
  have q2 : (0 : Int) ≤ ((zI s1 9)).toInt ∧ ((zI s1 9)).toInt ≤ 9 := (h_s1).1 9
  have q3 := li_8
  refine zok_ite (fun c1 => ?_) (fun c1 => ?_)
  · have q4 : ((zI s1 9)).toInt ≤ ((8 : Int32)).toInt := tle c1
    refine zok_bind (t_Creeps_gather N hN s2 s1 s3 v1 h_s2 h_s1 (show (0 : Int) ≤ ((zI s1 9)).toInt ∧ ((zI s1 9)).toInt ≤ 8 from ⟨by omega, by omega⟩) h_s3) (fun z2 hz2 => ?_)
    obtain ⟨h_z2, fr_z2⟩ := hz2
    refine zok_bind (t_Creeps_leastTogether N hN (zmg [6] z2 s2) 8 (zA s0 10) (IS.mg [6] h_z2 h_s2) rfl) (fun z4 hz4 => ?_)
    obtain ⟨h_z4_1, h_z4_2_1, fr_z4_2_1, h_z4_2_2⟩ := hz4
    have q6 := li_m1
    refine zok_ite (fun c5 => ?_) (fun c5 => ?_)
    · have q7 : (z4.1).toInt = (((-1) : Int32)).toInt := teq c5
      have q8 := li_0
      exact zok_some ⟨(show (-2 : Int) ≤ (z4.1).toInt ∧ (z4.1).toInt ≤ 16 from ⟨by omega, by omega⟩), (IS.pI 11 (0 : Int32) (IS.sA 10 z4.2.2 (IS.pI 11 (0 : Int32) h_s0 (show (0 : Int) ≤ ((0 : Int32)).toInt ∧ ((0 : Int32)).toInt ≤ 8 from ⟨by omega, by omega⟩)) (fun _ => tr _)) (show (0 : Int) ≤ ((0 : Int32)).toInt ∧ ((0 : Int32)).toInt ≤ 8 from ⟨by omega, by omega⟩)), (Fr.pI (Fr.sA (Fr.pI g_s0 rfl) rfl) rfl), (IS.mg [3] h_z4_2_1 (IS.mg [6] h_z2 h_s2)), (Fr.mg (Fr.tr fr_z4_2_1 (Fr.mg (Fr.tr fr_z2 g_s2 rfl rfl) g_s2) rfl rfl) (Fr.mg (Fr.tr fr_z2 g_s2 rfl rfl) g_s2))⟩
    · have q9 : (z4.1).toInt ≠ (((-1) : Int32)).toInt := tneq c5
      have q10 := li_0
      exact zok_some ⟨(show (-2 : Int) ≤ (z4.1).toInt ∧ (z4.1).toInt ≤ 16 from ⟨by omega, by omega⟩), (IS.pI 11 (zI s1 9) (IS.sA 10 z4.2.2 (IS.pI 11 (0 : Int32) h_s0 (show (0 : Int) ≤ ((0 : Int32)).toInt ∧ ((0 : Int32)).toInt ≤ 8 from ⟨by omega, by omega⟩)) (fun _ => tr _)) (show (0 : Int) ≤ ((zI s1 9)).toInt ∧ ((zI s1 9)).toInt ≤ 8 from ⟨by omega, by omega⟩)), (Fr.pI (Fr.sA (Fr.pI g_s0 rfl) rfl) rfl), (IS.mg [3] h_z4_2_1 (IS.mg [6] h_z2 h_s2)), (Fr.mg (Fr.tr fr_z4_2_1 (Fr.mg (Fr.tr fr_z2 g_s2 rfl rfl) g_s2) rfl rfl) (Fr.mg (Fr.tr fr_z2 g_s2 rfl rfl) g_s2))⟩
  · have q11 : ((zI s1 9)).toInt > ((8 : Int32)).toInt := tnle c1
    have q12 := li_m2
    have q13 := li_0
    exact zok_some ⟨(show (-2 : Int) ≤ (((-2) : Int32)).toInt ∧ (((-2) : Int32)).toInt ≤ 16 from ⟨by omega, by omega⟩), (IS.pI 11 (0 : Int32) h_s0 (show (0 : Int) ≤ ((0 : Int32)).toInt ∧ ((0 : Int32)).toInt ≤ 8 from ⟨by omega, by omega⟩)), (Fr.pI g_s0 rfl), h_s2, g_s2⟩
theorem t_CH_cracked (N : Nat) (hN : 50000000 ≤ N) (s0 : zSt) (s1 : zSt) (s2 : zSt) (s3 : zSt) (v1 : Int32) (h_s0 : I_CH s0) (h_s1 : I_Valley s1) (h_s2 : I_Creeps s2) (h_s3 : I_Entries s3) : zok (CH_cracked N s0 s1 s2 s3 v1) (fun z => ((-2 : Int) ≤ (z.1).toInt ∧ (z.1).toInt ≤ 16) ∧ I_CH z.2.1 ∧ Fr [11] [10] z.2.1 s0 ∧ I_Creeps z.2.2 ∧ Fr [0, 2, 8] [1, 3, 4, 5, 6, 7] z.2.2 s2) :=
  t_CH_cracked_b0 N hN s0 s1 s2 s3 v1 s0 s2 h_s0 h_s1 h_s2 h_s3 ⟨fun _ _ => rfl, fun _ _ => rfl⟩ ⟨fun _ _ => rfl, fun _ _ => rfl⟩
theorem t_CH_first_b0 (N : Nat) (hN : 50000000 ≤ N) (s0 : zSt) (s1 : zSt) (s2 : zSt) (s3 : zSt) (v1 : Int32) (gs2 : zSt) (h_s0 : I_CH s0) (h_s1 : I_Valley s1) (h_s2 : I_Creeps s2) (h_s3 : I_Entries s3) (g_s2 : Fr [0, 2, 9] [1, 3, 4, 5, 7] s2 gs2) : zok (CH_first_b0 N s0 s1 s2 s3 v1) (fun z => ((-2 : Int) ≤ (z.1).toInt ∧ (z.1).toInt ≤ 39) ∧ I_Creeps z.2 ∧ Fr [0, 2, 9] [1, 3, 4, 5, 7] z.2 gs2) := by
  rw [CH_first_b0]
  have q2 : (0 : Int) ≤ ((zI s1 9)).toInt ∧ ((zI s1 9)).toInt ≤ 9 := (h_s1).1 9
  have q3 := li_8
  refine zok_ite (fun c1 => ?_) (fun c1 => ?_)
  · have q4 : ((zI s1 9)).toInt ≤ ((8 : Int32)).toInt := tle c1
    refine zok_bind (t_Creeps_gather N hN s2 s1 s3 v1 h_s2 h_s1 (show (0 : Int) ≤ ((zI s1 9)).toInt ∧ ((zI s1 9)).toInt ≤ 8 from ⟨by omega, by omega⟩) h_s3) (fun z2 hz2 => ?_)
    obtain ⟨h_z2, fr_z2⟩ := hz2
    refine zok_bind (t_Creeps_firstThatCant N hN z2 h_z2) (fun z4 hz4 => ?_)
    obtain ⟨h_z4_1, h_z4_2, fr_z4_2⟩ := hz4
    exact zok_some ⟨(show (-2 : Int) ≤ (z4.1).toInt ∧ (z4.1).toInt ≤ 39 from ⟨by omega, by omega⟩), h_z4_2, (Fr.tr fr_z4_2 (Fr.tr fr_z2 g_s2 rfl rfl) rfl rfl)⟩
  · have q5 : ((zI s1 9)).toInt > ((8 : Int32)).toInt := tnle c1
    have q6 := li_m2
    exact zok_some ⟨(show (-2 : Int) ≤ (((-2) : Int32)).toInt ∧ (((-2) : Int32)).toInt ≤ 39 from ⟨by omega, by omega⟩), h_s2, g_s2⟩
theorem t_CH_first (N : Nat) (hN : 50000000 ≤ N) (s0 : zSt) (s1 : zSt) (s2 : zSt) (s3 : zSt) (v1 : Int32) (h_s0 : I_CH s0) (h_s1 : I_Valley s1) (h_s2 : I_Creeps s2) (h_s3 : I_Entries s3) : zok (CH_first N s0 s1 s2 s3 v1) (fun z => ((-2 : Int) ≤ (z.1).toInt ∧ (z.1).toInt ≤ 39) ∧ I_Creeps z.2 ∧ Fr [0, 2, 9] [1, 3, 4, 5, 7] z.2 s2) :=
  t_CH_first_b0 N hN s0 s1 s2 s3 v1 s2 h_s0 h_s1 h_s2 h_s3 ⟨fun _ _ => rfl, fun _ _ => rfl⟩
theorem t_CH_dealt_b0 (N : Nat) (hN : 50000000 ≤ N) (s0 : zSt) (s1 : zSt) (s2 : zSt) (v1 : Int32) (gs0 gs2 : zSt) (h_s0 : I_CH s0) (h_s1 : I_Valley s1) (h_s2 : I_Dealer s2) (g_s0 : Fr [11] [10] s0 gs0) (g_s2 : Fr [0, 1] [2] s2 gs2) : zok (CH_dealt_b0 N s0 s1 s2 v1) (fun z => ((-2 : Int) ≤ (z.1).toInt ∧ (z.1).toInt ≤ 8) ∧ I_CH z.2.1 ∧ Fr [11] [10] z.2.1 gs0 ∧ I_Dealer z.2.2 ∧ Fr [0, 1] [2] z.2.2 gs2) := by
  rw [CH_dealt_b0]
  rcases u_CH_within N v1 (1 : Int32) (2 : Int32)  with w1 | ⟨w1, w1_0, w1_1⟩ <;> rw [w1, zbs]
  · refine zok_t (by decide) ?_
    have q7 := li_m1
    have q8 := li_0
    exact zok_some ⟨(show (-2 : Int) ≤ (((-1) : Int32)).toInt ∧ (((-1) : Int32)).toInt ≤ 8 from ⟨by omega, by omega⟩), (IS.pI 11 (0 : Int32) h_s0 (show (0 : Int) ≤ ((0 : Int32)).toInt ∧ ((0 : Int32)).toInt ≤ 8 from ⟨by omega, by omega⟩)), (Fr.pI g_s0 rfl), h_s2, g_s2⟩
  · have q2 := li_1
    have q3 := tr v1
    have q4 : ((1 : Int32)).toInt ≤ (v1).toInt := w1_0
    have q5 := li_2
    have q6 : (v1).toInt ≤ ((2 : Int32)).toInt := w1_1
    refine zok_f (by decide) ?_
    have q10 : (0 : Int) ≤ ((zI s1 9)).toInt ∧ ((zI s1 9)).toInt ≤ 9 := (h_s1).1 9
    have q11 := li_8
    refine zok_ite (fun c9 => ?_) (fun c9 => ?_)
    · have q12 : ((zI s1 9)).toInt ≤ ((8 : Int32)).toInt := tle c9
      refine zok_bind (t_Dealer_deal N hN s2 s1 8 (zA s0 10) v1 h_s2 h_s1 (show (0 : Int) ≤ ((zI s1 9)).toInt ∧ ((zI s1 9)).toInt ≤ 8 from ⟨by omega, by omega⟩) rfl (show (1 : Int) ≤ (v1).toInt ∧ (v1).toInt ≤ 2 from ⟨by omega, by omega⟩)) (fun z5 hz5 => ?_)
      obtain ⟨h_z5_1, h_z5_2_1, fr_z5_2_1, h_z5_2_2⟩ := hz5
      have q13 := li_0
      exact zok_some ⟨(show (-2 : Int) ≤ (z5.1).toInt ∧ (z5.1).toInt ≤ 8 from ⟨by omega, by omega⟩), (IS.sA 10 z5.2.2 (IS.pI 11 (zI s1 9) (IS.pI 11 (0 : Int32) h_s0 (show (0 : Int) ≤ ((0 : Int32)).toInt ∧ ((0 : Int32)).toInt ≤ 8 from ⟨by omega, by omega⟩)) (show (0 : Int) ≤ ((zI s1 9)).toInt ∧ ((zI s1 9)).toInt ≤ 8 from ⟨by omega, by omega⟩)) (fun _ => tr _)), (Fr.sA (Fr.pI (Fr.pI g_s0 rfl) rfl) rfl), h_z5_2_1, (Fr.tr fr_z5_2_1 g_s2 rfl rfl)⟩
    · have q14 : ((zI s1 9)).toInt > ((8 : Int32)).toInt := tnle c9
      have q15 := li_m2
      have q16 := li_0
      exact zok_some ⟨(show (-2 : Int) ≤ (((-2) : Int32)).toInt ∧ (((-2) : Int32)).toInt ≤ 8 from ⟨by omega, by omega⟩), (IS.pI 11 (0 : Int32) h_s0 (show (0 : Int) ≤ ((0 : Int32)).toInt ∧ ((0 : Int32)).toInt ≤ 8 from ⟨by omega, by omega⟩)), (Fr.pI g_s0 rfl), h_s2, g_s2⟩
theorem t_CH_dealt (N : Nat) (hN : 50000000 ≤ N) (s0 : zSt) (s1 : zSt) (s2 : zSt) (v1 : Int32) (h_s0 : I_CH s0) (h_s1 : I_Valley s1) (h_s2 : I_Dealer s2) : zok (CH_dealt N s0 s1 s2 v1) (fun z => ((-2 : Int) ≤ (z.1).toInt ∧ (z.1).toInt ≤ 8) ∧ I_CH z.2.1 ∧ Fr [11] [10] z.2.1 s0 ∧ I_Dealer z.2.2 ∧ Fr [0, 1] [2] z.2.2 s2) :=
  t_CH_dealt_b0 N hN s0 s1 s2 v1 s0 s2 h_s0 h_s1 h_s2 ⟨fun _ _ => rfl, fun _ _ => rfl⟩ ⟨fun _ _ => rfl, fun _ _ => rfl⟩
theorem t_CH_lies_b0 (N : Nat) (hN : 50000000 ≤ N) (s0 : zSt) (v1 : Int32) (h_s0 : I_CH s0) : zok (CH_lies_b0 N s0 v1) (fun z => True) := by
  rw [CH_lies_b0]
  rcases u_CH_within N v1 (0 : Int32) ((zI s0 11) - (1 : Int32))  with w1 | ⟨w1, w1_0, w1_1⟩ <;> rw [w1, zbs]
  · refine zok_t (by decide) ?_
    exact zok_some trivial
  · have q2 := li_0
    have q3 := tr v1
    have q4 : ((0 : Int32)).toInt ≤ (v1).toInt := w1_0
    have q5 : (0 : Int) ≤ ((zI s0 11)).toInt ∧ ((zI s0 11)).toInt ≤ 8 := (h_s0).1 11
    have q6 := li_1
    have q7 := tsub (zI s0 11) (1 : Int32) (by omega) (by omega)
    have q8 : (v1).toInt ≤ (((zI s0 11) - (1 : Int32))).toInt := w1_1
    refine zok_f (by decide) ?_
    refine zok_ck (show vp_in v1 8 from vin (by omega) (by omega)) ?_
    exact zok_some trivial
theorem t_CH_lies (N : Nat) (hN : 50000000 ≤ N) (s0 : zSt) (v1 : Int32) (h_s0 : I_CH s0) : zok (CH_lies N s0 v1) (fun z => True) :=
  t_CH_lies_b0 N hN s0 v1  h_s0 
theorem t_CH_fresh_b104 (N : Nat) (hN : 50000000 ≤ N) (kh57 : Int32 → Int32 → Int32 → Option (Int32)) (m57 : Int) (s0 : zSt) (s1 : zSt) (v1 : Int32) (v3 : Int32) (v4 : Int32) (v5 : Int32) (v6 : Int32) (hkh57 : ∀ (v4 : Int32) (v5 : Int32) (v6 : Int32), (-1 : Int) ≤ (v4).toInt ∧ (v4).toInt ≤ 11 → (-1 : Int) ≤ (v5).toInt ∧ (v5).toInt ≤ 2147483647 → (0 : Int) ≤ (v6).toInt ∧ (v6).toInt ≤ 12 → 13 - (v6).toInt ≤ m57 - 1 → zok (kh57 v4 v5 v6) (fun z => ((-2 : Int) ≤ (z).toInt ∧ (z).toInt ≤ 11))) (h_s0 : I_CH s0) (h_s1 : I_Valley s1) (h_v1 : (1 : Int) ≤ (v1).toInt ∧ (v1).toInt ≤ 99) (h_v4 : (-1 : Int) ≤ (v4).toInt ∧ (v4).toInt ≤ 11) (h_v5 : (-1 : Int) ≤ (v5).toInt ∧ (v5).toInt ≤ 2147483647) (h_v6 : (0 : Int) ≤ (v6).toInt ∧ (v6).toInt ≤ 11) (hm57 : 13 - (v6).toInt ≤ m57) : zok (CH_fresh_b104 N kh57 s0 s1 v1 v3 v4 v5 v6) (fun z => ((-2 : Int) ≤ (z).toInt ∧ (z).toInt ≤ 11)) := by
  rw [CH_fresh_b104]
  have q1 := li_1
  have q2 := tadd v6 (1 : Int32) (by omega) (by omega)
  exact hkh57 _ _ _ (show (-1 : Int) ≤ (v4).toInt ∧ (v4).toInt ≤ 11 from ⟨by omega, by omega⟩) (show (-1 : Int) ≤ (v5).toInt ∧ (v5).toInt ≤ 2147483647 from ⟨by omega, by omega⟩) (show (0 : Int) ≤ ((v6 + (1 : Int32))).toInt ∧ ((v6 + (1 : Int32))).toInt ≤ 12 from ⟨by omega, by omega⟩) (show 13 - ((v6 + (1 : Int32))).toInt ≤ m57 - 1 by omega)
theorem t_CH_fresh_b57 (N : Nat) (hN : 50000000 ≤ N) (kh57 : Int32 → Int32 → Int32 → Option (Int32)) (m57 : Int) (s0 : zSt) (s1 : zSt) (v1 : Int32) (v3 : Int32) (v4 : Int32) (v5 : Int32) (v6 : Int32) (hkh57 : ∀ (v4 : Int32) (v5 : Int32) (v6 : Int32), (-1 : Int) ≤ (v4).toInt ∧ (v4).toInt ≤ 11 → (-1 : Int) ≤ (v5).toInt ∧ (v5).toInt ≤ 2147483647 → (0 : Int) ≤ (v6).toInt ∧ (v6).toInt ≤ 12 → 13 - (v6).toInt ≤ m57 - 1 → zok (kh57 v4 v5 v6) (fun z => ((-2 : Int) ≤ (z).toInt ∧ (z).toInt ≤ 11))) (h_s0 : I_CH s0) (h_s1 : I_Valley s1) (h_v1 : (1 : Int) ≤ (v1).toInt ∧ (v1).toInt ≤ 99) (h_v4 : (-1 : Int) ≤ (v4).toInt ∧ (v4).toInt ≤ 11) (h_v5 : (-1 : Int) ≤ (v5).toInt ∧ (v5).toInt ≤ 2147483647) (h_v6 : (0 : Int) ≤ (v6).toInt ∧ (v6).toInt ≤ 12) (hm57 : 13 - (v6).toInt ≤ m57) : zok (CH_fresh_b57 N kh57 s0 s1 v1 v3 v4 v5 v6) (fun z => ((-2 : Int) ≤ (z).toInt ∧ (z).toInt ≤ 11)) := by
  rw [CH_fresh_b57]
  have q2 := li_12
  refine zok_ite (fun c1 => ?_) (fun c1 => ?_)
  · have q3 : ((12 : Int32)).toInt ≤ (v6).toInt := tle c1
    exact zok_some (show (-2 : Int) ≤ (v4).toInt ∧ (v4).toInt ≤ 11 from ⟨by omega, by omega⟩)
  · have q4 : ((12 : Int32)).toInt > (v6).toInt := tnle c1
    refine zok_bind (t_Valley_farFrom N hN s1 v6 v3 h_s1 (show (0 : Int) ≤ (v6).toInt ∧ (v6).toInt ≤ 11 from ⟨by omega, by omega⟩)) (fun z2 hz2 => ?_)
    have h_z2 := hz2
    have q6 := tr z2
    refine zok_ite (fun c5 => ?_) (fun c5 => ?_)
    · have q7 : (z2).toInt ≤ (v5).toInt := tle c5
      exact t_CH_fresh_b104 N hN kh57 m57 _ _ _ _ _ _ _  hkh57 h_s0 h_s1 (show (1 : Int) ≤ (v1).toInt ∧ (v1).toInt ≤ 99 from ⟨by omega, by omega⟩) (show (-1 : Int) ≤ (v4).toInt ∧ (v4).toInt ≤ 11 from ⟨by omega, by omega⟩) (show (-1 : Int) ≤ (v5).toInt ∧ (v5).toInt ≤ 2147483647 from ⟨by omega, by omega⟩) (show (0 : Int) ≤ (v6).toInt ∧ (v6).toInt ≤ 11 from ⟨by omega, by omega⟩) (show 13 - (v6).toInt ≤ m57 from by omega)
    · have q8 : (z2).toInt > (v5).toInt := tnle c5
      refine zok_bind (t_Valley_hasBeast N hN s1 v6 v1 h_s1 (show (0 : Int) ≤ (v6).toInt ∧ (v6).toInt ≤ 11 from ⟨by omega, by omega⟩) (show (1 : Int) ≤ (v1).toInt ∧ (v1).toInt ≤ 99 from ⟨by omega, by omega⟩)) (fun z5 hz5 => ?_)
      have h_z5 := hz5
      have q10 := li_0
      refine zok_ite (fun c9 => ?_) (fun c9 => ?_)
      · have q11 : (z5).toInt = ((0 : Int32)).toInt := teq c9
        exact t_CH_fresh_b104 N hN kh57 m57 _ _ _ _ _ _ _  hkh57 h_s0 h_s1 (show (1 : Int) ≤ (v1).toInt ∧ (v1).toInt ≤ 99 from ⟨by omega, by omega⟩) (show (-1 : Int) ≤ (v6).toInt ∧ (v6).toInt ≤ 11 from ⟨by omega, by omega⟩) (show (-1 : Int) ≤ (z2).toInt ∧ (z2).toInt ≤ 2147483647 from ⟨by omega, by omega⟩) (show (0 : Int) ≤ (v6).toInt ∧ (v6).toInt ≤ 11 from ⟨by omega, by omega⟩) (show 13 - (v6).toInt ≤ m57 from by omega)
      · have q12 : (z5).toInt ≠ ((0 : Int32)).toInt := tneq c9
        exact t_CH_fresh_b104 N hN kh57 m57 _ _ _ _ _ _ _  hkh57 h_s0 h_s1 (show (1 : Int) ≤ (v1).toInt ∧ (v1).toInt ≤ 99 from ⟨by omega, by omega⟩) (show (-1 : Int) ≤ (v4).toInt ∧ (v4).toInt ≤ 11 from ⟨by omega, by omega⟩) (show (-1 : Int) ≤ (v5).toInt ∧ (v5).toInt ≤ 2147483647 from ⟨by omega, by omega⟩) (show (0 : Int) ≤ (v6).toInt ∧ (v6).toInt ≤ 11 from ⟨by omega, by omega⟩) (show 13 - (v6).toInt ≤ m57 from by omega)
theorem t_CH_fresh_h57 (N : Nat) (hN : 50000000 ≤ N) (s0 : zSt) (s1 : zSt) (v1 : Int32) (v3 : Int32) (h_s0 : I_CH s0) (h_s1 : I_Valley s1) (h_v1 : (1 : Int) ≤ (v1).toInt ∧ (v1).toInt ≤ 99) : ∀ (n : Nat) (v4 : Int32) (v5 : Int32) (v6 : Int32), (-1 : Int) ≤ (v4).toInt ∧ (v4).toInt ≤ 11 → (-1 : Int) ≤ (v5).toInt ∧ (v5).toInt ≤ 2147483647 → (0 : Int) ≤ (v6).toInt ∧ (v6).toInt ≤ 12 → 13 - (v6).toInt ≤ (n : Int) → zok (CH_fresh_h57 N s0 s1 v1 v3 n v4 v5 v6) (fun z => ((-2 : Int) ≤ (z).toInt ∧ (z).toInt ≤ 11))
  | 0, v4, v5, v6, h_v4, h_v5, h_v6, hm => absurd hm (by omega)
  | n + 1, v4, v5, v6, h_v4, h_v5, h_v6, hm => by
    rw [CH_fresh_h57_s]
    exact t_CH_fresh_b57 N hN (CH_fresh_h57 N s0 s1 v1 v3 n) ((n + 1 : Nat) : Int) s0 s1 v1 v3 v4 v5 v6  (fun v4 v5 v6 h_v4 h_v5 h_v6 q => t_CH_fresh_h57 N hN  s0 s1 v1 v3   h_s0 h_s1 h_v1   n v4 v5 v6 h_v4 h_v5 h_v6 (by omega)) h_s0 h_s1 h_v1 h_v4 h_v5 h_v6  hm
theorem t_CH_fresh_b0 (N : Nat) (hN : 50000000 ≤ N) (s0 : zSt) (s1 : zSt) (v1 : Int32) (v2 : Int32) (h_s0 : I_CH s0) (h_s1 : I_Valley s1) : zok (CH_fresh_b0 N s0 s1 v1 v2) (fun z => ((-2 : Int) ≤ (z).toInt ∧ (z).toInt ≤ 11)) := by
  rw [CH_fresh_b0]
  rcases u_CH_within N v1 (1 : Int32) (99 : Int32)  with w1 | ⟨w1, w1_0, w1_1⟩ <;> rw [w1, zbs]
  · refine zok_t (by decide) ?_
    have q7 := li_m2
    exact zok_some (show (-2 : Int) ≤ (((-2) : Int32)).toInt ∧ (((-2) : Int32)).toInt ≤ 11 from ⟨by omega, by omega⟩)
  · have q2 := li_1
    have q3 := tr v1
    have q4 : ((1 : Int32)).toInt ≤ (v1).toInt := w1_0
    have q5 := li_99
    have q6 : (v1).toInt ≤ ((99 : Int32)).toInt := w1_1
    refine zok_f (by decide) ?_
    refine zok_ite (fun c8 => ?_) (fun c8 => ?_)
    · refine zok_bind (t_Valley_eachIsKnown N hN s1 h_s1) (fun z5 hz5 => ?_)
      have h_z5 := hz5
      have q10 := li_0
      refine zok_ite (fun c9 => ?_) (fun c9 => ?_)
      · have q11 : (z5).toInt = ((0 : Int32)).toInt := teq c9
        have q12 := li_m1
        exact zok_some (show (-2 : Int) ≤ (((-1) : Int32)).toInt ∧ (((-1) : Int32)).toInt ≤ 11 from ⟨by omega, by omega⟩)
      · have q13 : (z5).toInt ≠ ((0 : Int32)).toInt := tneq c9
        refine zok_bind (t_Valley_withThoseBeside N hN s1 v2 h_s1) (fun z8 hz8 => ?_)
        have h_z8 := hz8
        have q14 := li_m1
        exact t_CH_fresh_h57 N hN  _ _ _ _   h_s0 h_s1 (show (1 : Int) ≤ (v1).toInt ∧ (v1).toInt ≤ 99 from ⟨by omega, by omega⟩)  N _ _ _ (show (-1 : Int) ≤ (((-1) : Int32)).toInt ∧ (((-1) : Int32)).toInt ≤ 11 from ⟨by omega, by omega⟩) (show (-1 : Int) ≤ (((-1) : Int32)).toInt ∧ (((-1) : Int32)).toInt ≤ 2147483647 from ⟨by omega, by omega⟩) (show (0 : Int) ≤ ((0 : Int32)).toInt ∧ ((0 : Int32)).toInt ≤ 12 from ⟨by omega, by omega⟩) (show 13 - ((0 : Int32)).toInt ≤ (N : Int) from by omega)
    · have q15 := li_m2
      exact zok_some (show (-2 : Int) ≤ (((-2) : Int32)).toInt ∧ (((-2) : Int32)).toInt ≤ 11 from ⟨by omega, by omega⟩)
theorem t_CH_fresh (N : Nat) (hN : 50000000 ≤ N) (s0 : zSt) (s1 : zSt) (v1 : Int32) (v2 : Int32) (h_s0 : I_CH s0) (h_s1 : I_Valley s1) : zok (CH_fresh N s0 s1 v1 v2) (fun z => ((-2 : Int) ≤ (z).toInt ∧ (z).toInt ≤ 11)) :=
  t_CH_fresh_b0 N hN s0 s1 v1 v2  h_s0 h_s1 
theorem t_CH_image_b0 (N : Nat) (hN : 50000000 ≤ N) (s0 : zSt) (s2 : zSt) (s3 : zSt) (s4 : zSt) (s5 : zSt) (v1 : Int32) (gs0 gs2 gs4 gs5 : zSt) (h_s0 : I_CH s0) (h_s2 : I_Earnest s2) (h_s3 : I_Earnest s3) (h_s4 : I_Earnest s4) (h_s5 : I_Earnest s5) (g_s0 : Fr [7] [] s0 gs0) (g_s2 : Fr [0, 1, 2, 3, 4] [5] s2 gs2) (g_s4 : Fr [0, 1, 2, 3, 4] [5] s4 gs4) (g_s5 : Fr [0, 1, 2, 3, 4] [5] s5 gs5) : zok (CH_image_b0 N s0 s2 s3 s4 s5 v1) (fun z => ((-1 : Int) ≤ (z.1).toInt ∧ (z.1).toInt ≤ 200) ∧ I_CH z.2.1 ∧ Fr [7] [] z.2.1 gs0 ∧ I_Earnest z.2.2.1 ∧ Fr [0, 1, 2, 3, 4] [5] z.2.2.1 gs2 ∧ I_Earnest z.2.2.2.1 ∧ Fr [0, 1, 2, 3, 4] [5] z.2.2.2.1 gs4 ∧ I_Earnest z.2.2.2.2 ∧ Fr [0, 1, 2, 3, 4] [5] z.2.2.2.2 gs5) := by
  rw [CH_image_b0]
  rcases u_CH_within N v1 (0 : Int32) (2 : Int32)  with w1 | ⟨w1, w1_0, w1_1⟩ <;> rw [w1, zbs]
  · refine zok_t (by decide) ?_
    have q7 := li_m1
    exact zok_some ⟨(show (-1 : Int) ≤ (((-1) : Int32)).toInt ∧ (((-1) : Int32)).toInt ≤ 200 from ⟨by omega, by omega⟩), h_s0, g_s0, h_s2, g_s2, h_s4, g_s4, h_s5, g_s5⟩
  · have q2 := li_0
    have q3 := tr v1
    have q4 : ((0 : Int32)).toInt ≤ (v1).toInt := w1_0
    have q5 := li_2
    have q6 : (v1).toInt ≤ ((2 : Int32)).toInt := w1_1
    refine zok_f (by decide) ?_
    refine zok_ite (fun c8 => ?_) (fun c8 => ?_)
    · have q9 : (v1).toInt = ((0 : Int32)).toInt := teq c8
      refine zok_bind (t_Earnest_copy N hN s2 s3 h_s2 h_s3) (fun z5 hz5 => ?_)
      obtain ⟨h_z5, fr_z5⟩ := hz5
      have q10 : (0 : Int) ≤ ((zI s3 4)).toInt ∧ ((zI s3 4)).toInt ≤ 200 := (h_s3).1 4
      exact zok_some ⟨(show (-1 : Int) ≤ ((zI s3 4)).toInt ∧ ((zI s3 4)).toInt ≤ 200 from ⟨by omega, by omega⟩), (IS.pI 7 ((zI s0 7) ||| ((1 : Int32) <<< (v1 &&& (31 : Int32)))) h_s0 (tr _)), (Fr.pI g_s0 rfl), h_z5, (Fr.tr fr_z5 g_s2 rfl rfl), h_s4, g_s4, h_s5, g_s5⟩
    · have q11 : (v1).toInt ≠ ((0 : Int32)).toInt := tneq c8
      have q13 := li_1
      refine zok_ite (fun c12 => ?_) (fun c12 => ?_)
      · have q14 : (v1).toInt = ((1 : Int32)).toInt := teq c12
        refine zok_bind (t_Earnest_copy N hN s4 s3 h_s4 h_s3) (fun z7 hz7 => ?_)
        obtain ⟨h_z7, fr_z7⟩ := hz7
        have q15 : (0 : Int) ≤ ((zI s3 4)).toInt ∧ ((zI s3 4)).toInt ≤ 200 := (h_s3).1 4
        exact zok_some ⟨(show (-1 : Int) ≤ ((zI s3 4)).toInt ∧ ((zI s3 4)).toInt ≤ 200 from ⟨by omega, by omega⟩), (IS.pI 7 ((zI s0 7) ||| ((1 : Int32) <<< (v1 &&& (31 : Int32)))) h_s0 (tr _)), (Fr.pI g_s0 rfl), h_s2, g_s2, h_z7, (Fr.tr fr_z7 g_s4 rfl rfl), h_s5, g_s5⟩
      · have q16 : (v1).toInt ≠ ((1 : Int32)).toInt := tneq c12
        refine zok_ite (fun c17 => ?_) (fun c17 => ?_)
        · have q18 : (v1).toInt = ((2 : Int32)).toInt := teq c17
          refine zok_bind (t_Earnest_copy N hN s5 s3 h_s5 h_s3) (fun z9 hz9 => ?_)
          obtain ⟨h_z9, fr_z9⟩ := hz9
          have q19 : (0 : Int) ≤ ((zI s3 4)).toInt ∧ ((zI s3 4)).toInt ≤ 200 := (h_s3).1 4
          exact zok_some ⟨(show (-1 : Int) ≤ ((zI s3 4)).toInt ∧ ((zI s3 4)).toInt ≤ 200 from ⟨by omega, by omega⟩), (IS.pI 7 ((zI s0 7) ||| ((1 : Int32) <<< (v1 &&& (31 : Int32)))) h_s0 (tr _)), (Fr.pI g_s0 rfl), h_s2, g_s2, h_s4, g_s4, h_z9, (Fr.tr fr_z9 g_s5 rfl rfl)⟩
        · have q20 : (v1).toInt ≠ ((2 : Int32)).toInt := tneq c17
          exfalso
          omega
theorem t_CH_image (N : Nat) (hN : 50000000 ≤ N) (s0 : zSt) (s2 : zSt) (s3 : zSt) (s4 : zSt) (s5 : zSt) (v1 : Int32) (h_s0 : I_CH s0) (h_s2 : I_Earnest s2) (h_s3 : I_Earnest s3) (h_s4 : I_Earnest s4) (h_s5 : I_Earnest s5) : zok (CH_image N s0 s2 s3 s4 s5 v1) (fun z => ((-1 : Int) ≤ (z.1).toInt ∧ (z.1).toInt ≤ 200) ∧ I_CH z.2.1 ∧ Fr [7] [] z.2.1 s0 ∧ I_Earnest z.2.2.1 ∧ Fr [0, 1, 2, 3, 4] [5] z.2.2.1 s2 ∧ I_Earnest z.2.2.2.1 ∧ Fr [0, 1, 2, 3, 4] [5] z.2.2.2.1 s4 ∧ I_Earnest z.2.2.2.2 ∧ Fr [0, 1, 2, 3, 4] [5] z.2.2.2.2 s5) :=
  t_CH_image_b0 N hN s0 s2 s3 s4 s5 v1 s0 s2 s4 s5 h_s0 h_s2 h_s3 h_s4 h_s5 ⟨fun _ _ => rfl, fun _ _ => rfl⟩ ⟨fun _ _ => rfl, fun _ _ => rfl⟩ ⟨fun _ _ => rfl, fun _ _ => rfl⟩ ⟨fun _ _ => rfl, fun _ _ => rfl⟩
theorem t_CH_back_b0 (N : Nat) (hN : 50000000 ≤ N) (s0 : zSt) (s2 : zSt) (s3 : zSt) (s4 : zSt) (s5 : zSt) (v1 : Int32) (gs2 : zSt) (h_s0 : I_CH s0) (h_s2 : I_Earnest s2) (h_s3 : I_Earnest s3) (h_s4 : I_Earnest s4) (h_s5 : I_Earnest s5) (g_s2 : Fr [0, 1, 2, 3, 4] [5] s2 gs2) : zok (CH_back_b0 N s0 s2 s3 s4 s5 v1) (fun z => ((-1 : Int) ≤ (z.1).toInt ∧ (z.1).toInt ≤ 200) ∧ I_Earnest z.2 ∧ Fr [0, 1, 2, 3, 4] [5] z.2 gs2) := by
  rw [CH_back_b0]
  rcases u_CH_within N v1 (0 : Int32) (2 : Int32)  with w1 | ⟨w1, w1_0, w1_1⟩ <;> rw [w1, zbs]
  · refine zok_t (by decide) ?_
    have q7 := li_m1
    exact zok_some ⟨(show (-1 : Int) ≤ (((-1) : Int32)).toInt ∧ (((-1) : Int32)).toInt ≤ 200 from ⟨by omega, by omega⟩), h_s2, g_s2⟩
  · have q2 := li_0
    have q3 := tr v1
    have q4 : ((0 : Int32)).toInt ≤ (v1).toInt := w1_0
    have q5 := li_2
    have q6 : (v1).toInt ≤ ((2 : Int32)).toInt := w1_1
    refine zok_f (by decide) ?_
    refine zok_ite (fun c8 => ?_) (fun c8 => ?_)
    · have q9 := li_m1
      exact zok_some ⟨(show (-1 : Int) ≤ (((-1) : Int32)).toInt ∧ (((-1) : Int32)).toInt ≤ 200 from ⟨by omega, by omega⟩), h_s2, g_s2⟩
    · refine zok_ite (fun c10 => ?_) (fun c10 => ?_)
      · have q11 : (v1).toInt = ((0 : Int32)).toInt := teq c10
        refine zok_bind (t_Earnest_copy N hN s2 s3 h_s2 h_s3) (fun z6 hz6 => ?_)
        obtain ⟨h_z6, fr_z6⟩ := hz6
        have q12 : (0 : Int) ≤ ((zI z6 4)).toInt ∧ ((zI z6 4)).toInt ≤ 200 := (h_z6).1 4
        exact zok_some ⟨(show (-1 : Int) ≤ ((zI z6 4)).toInt ∧ ((zI z6 4)).toInt ≤ 200 from ⟨by omega, by omega⟩), h_z6, (Fr.tr fr_z6 g_s2 rfl rfl)⟩
      · have q13 : (v1).toInt ≠ ((0 : Int32)).toInt := tneq c10
        have q15 := li_1
        refine zok_ite (fun c14 => ?_) (fun c14 => ?_)
        · have q16 : (v1).toInt = ((1 : Int32)).toInt := teq c14
          refine zok_bind (t_Earnest_copy N hN s2 s4 h_s2 h_s4) (fun z8 hz8 => ?_)
          obtain ⟨h_z8, fr_z8⟩ := hz8
          have q17 : (0 : Int) ≤ ((zI z8 4)).toInt ∧ ((zI z8 4)).toInt ≤ 200 := (h_z8).1 4
          exact zok_some ⟨(show (-1 : Int) ≤ ((zI z8 4)).toInt ∧ ((zI z8 4)).toInt ≤ 200 from ⟨by omega, by omega⟩), h_z8, (Fr.tr fr_z8 g_s2 rfl rfl)⟩
        · have q18 : (v1).toInt ≠ ((1 : Int32)).toInt := tneq c14
          refine zok_ite (fun c19 => ?_) (fun c19 => ?_)
          · have q20 : (v1).toInt = ((2 : Int32)).toInt := teq c19
            refine zok_bind (t_Earnest_copy N hN s2 s5 h_s2 h_s5) (fun z10 hz10 => ?_)
            obtain ⟨h_z10, fr_z10⟩ := hz10
            have q21 : (0 : Int) ≤ ((zI z10 4)).toInt ∧ ((zI z10 4)).toInt ≤ 200 := (h_z10).1 4
            exact zok_some ⟨(show (-1 : Int) ≤ ((zI z10 4)).toInt ∧ ((zI z10 4)).toInt ≤ 200 from ⟨by omega, by omega⟩), h_z10, (Fr.tr fr_z10 g_s2 rfl rfl)⟩
          · have q22 : (v1).toInt ≠ ((2 : Int32)).toInt := tneq c19
            exfalso
            omega
theorem t_CH_back (N : Nat) (hN : 50000000 ≤ N) (s0 : zSt) (s2 : zSt) (s3 : zSt) (s4 : zSt) (s5 : zSt) (v1 : Int32) (h_s0 : I_CH s0) (h_s2 : I_Earnest s2) (h_s3 : I_Earnest s3) (h_s4 : I_Earnest s4) (h_s5 : I_Earnest s5) : zok (CH_back N s0 s2 s3 s4 s5 v1) (fun z => ((-1 : Int) ≤ (z.1).toInt ∧ (z.1).toInt ≤ 200) ∧ I_Earnest z.2 ∧ Fr [0, 1, 2, 3, 4] [5] z.2 s2) :=
  t_CH_back_b0 N hN s0 s2 s3 s4 s5 v1 s2 h_s0 h_s2 h_s3 h_s4 h_s5 ⟨fun _ _ => rfl, fun _ _ => rfl⟩
theorem t_CH_about_b0 (N : Nat) (hN : 50000000 ≤ N) (s0 : zSt) (s1 : zSt) (s2 : zSt) (s3 : zSt) (v1 : Int32) (h_s0 : I_CH s0) (h_s1 : I_Entries s1) (h_s2 : I_Earnest s2) (h_s3 : I_Valley s3) : zok (CH_about_b0 N s0 s1 s2 s3 v1) (fun z => ((-9 : Int) ≤ (z).toInt ∧ (z).toInt ≤ 100000)) := by
  rw [CH_about_b0]
  have q2 := tr v1
  have q3 := li_0
  refine zok_ite (fun c1 => ?_) (fun c1 => ?_)
  · have q4 : (v1).toInt = ((0 : Int32)).toInt := teq c1
    have q5 : (0 : Int) ≤ ((zI s3 0)).toInt ∧ ((zI s3 0)).toInt ≤ 3 := (h_s3).1 0
    exact zok_some (show (-9 : Int) ≤ ((zI s3 0)).toInt ∧ ((zI s3 0)).toInt ≤ 100000 from ⟨by omega, by omega⟩)
  · have q6 : (v1).toInt ≠ ((0 : Int32)).toInt := tneq c1
    have q8 := li_1
    refine zok_ite (fun c7 => ?_) (fun c7 => ?_)
    · have q9 : (v1).toInt = ((1 : Int32)).toInt := teq c7
      have q10 : (0 : Int) ≤ ((zI s3 9)).toInt ∧ ((zI s3 9)).toInt ≤ 9 := (h_s3).1 9
      exact zok_some (show (-9 : Int) ≤ ((zI s3 9)).toInt ∧ ((zI s3 9)).toInt ≤ 100000 from ⟨by omega, by omega⟩)
    · have q11 : (v1).toInt ≠ ((1 : Int32)).toInt := tneq c7
      have q13 := li_2
      refine zok_ite (fun c12 => ?_) (fun c12 => ?_)
      · have q14 : (v1).toInt = ((2 : Int32)).toInt := teq c12
        have q15 : (0 : Int) ≤ ((zI s3 3)).toInt ∧ ((zI s3 3)).toInt ≤ 11 := (h_s3).1 3
        have q16 : (0 : Int) ≤ ((zI s3 9)).toInt ∧ ((zI s3 9)).toInt ≤ 9 := (h_s3).1 9
        have q17 := tsub (zI s3 3) (zI s3 9) (by omega) (by omega)
        exact zok_some (show (-9 : Int) ≤ (((zI s3 3) - (zI s3 9))).toInt ∧ (((zI s3 3) - (zI s3 9))).toInt ≤ 100000 from ⟨by omega, by omega⟩)
      · have q18 : (v1).toInt ≠ ((2 : Int32)).toInt := tneq c12
        have q20 := li_3
        refine zok_ite (fun c19 => ?_) (fun c19 => ?_)
        · have q21 : (v1).toInt = ((3 : Int32)).toInt := teq c19
          have q22 : (0 : Int) ≤ ((zI s3 12)).toInt ∧ ((zI s3 12)).toInt ≤ 4 := (h_s3).1 12
          exact zok_some (show (-9 : Int) ≤ ((zI s3 12)).toInt ∧ ((zI s3 12)).toInt ≤ 100000 from ⟨by omega, by omega⟩)
        · have q23 : (v1).toInt ≠ ((3 : Int32)).toInt := tneq c19
          have q25 := li_4
          refine zok_ite (fun c24 => ?_) (fun c24 => ?_)
          · have q26 : (v1).toInt = ((4 : Int32)).toInt := teq c24
            have q27 : (0 : Int) ≤ ((zI s2 2)).toInt ∧ ((zI s2 2)).toInt ≤ 99 := (h_s2).1 2
            exact zok_some (show (-9 : Int) ≤ ((zI s2 2)).toInt ∧ ((zI s2 2)).toInt ≤ 100000 from ⟨by omega, by omega⟩)
          · have q28 : (v1).toInt ≠ ((4 : Int32)).toInt := tneq c24
            have q30 := li_5
            refine zok_ite (fun c29 => ?_) (fun c29 => ?_)
            · have q31 : (v1).toInt = ((5 : Int32)).toInt := teq c29
              have q32 : (0 : Int) ≤ ((zI s2 3)).toInt ∧ ((zI s2 3)).toInt ≤ 20 := (h_s2).1 3
              exact zok_some (show (-9 : Int) ≤ ((zI s2 3)).toInt ∧ ((zI s2 3)).toInt ≤ 100000 from ⟨by omega, by omega⟩)
            · have q33 : (v1).toInt ≠ ((5 : Int32)).toInt := tneq c29
              have q35 := li_6
              refine zok_ite (fun c34 => ?_) (fun c34 => ?_)
              · have q36 : (v1).toInt = ((6 : Int32)).toInt := teq c34
                have q37 : (0 : Int) ≤ ((zI s2 4)).toInt ∧ ((zI s2 4)).toInt ≤ 200 := (h_s2).1 4
                exact zok_some (show (-9 : Int) ≤ ((zI s2 4)).toInt ∧ ((zI s2 4)).toInt ≤ 100000 from ⟨by omega, by omega⟩)
              · have q38 : (v1).toInt ≠ ((6 : Int32)).toInt := tneq c34
                have q40 := li_7
                refine zok_ite (fun c39 => ?_) (fun c39 => ?_)
                · have q41 : (v1).toInt = ((7 : Int32)).toInt := teq c39
                  have q42 : (0 : Int) ≤ ((zI s1 0)).toInt ∧ ((zI s1 0)).toInt ≤ 40 := (h_s1).1 0
                  exact zok_some (show (-9 : Int) ≤ ((zI s1 0)).toInt ∧ ((zI s1 0)).toInt ≤ 100000 from ⟨by omega, by omega⟩)
                · have q43 : (v1).toInt ≠ ((7 : Int32)).toInt := tneq c39
                  have q45 := li_8
                  refine zok_ite (fun c44 => ?_) (fun c44 => ?_)
                  · have q46 : (v1).toInt = ((8 : Int32)).toInt := teq c44
                    have q47 : (0 : Int) ≤ ((zI s0 9)).toInt ∧ ((zI s0 9)).toInt ≤ 100000 := (h_s0).1 9
                    exact zok_some (show (-9 : Int) ≤ ((zI s0 9)).toInt ∧ ((zI s0 9)).toInt ≤ 100000 from ⟨by omega, by omega⟩)
                  · have q48 : (v1).toInt ≠ ((8 : Int32)).toInt := tneq c44
                    have q50 := li_9
                    refine zok_ite (fun c49 => ?_) (fun c49 => ?_)
                    · have q51 : (v1).toInt = ((9 : Int32)).toInt := teq c49
                      have q52 : (0 : Int) ≤ ((zI s0 1)).toInt ∧ ((zI s0 1)).toInt ≤ 1500 := (h_s0).1 1
                      exact zok_some (show (-9 : Int) ≤ ((zI s0 1)).toInt ∧ ((zI s0 1)).toInt ≤ 100000 from ⟨by omega, by omega⟩)
                    · have q53 : (v1).toInt ≠ ((9 : Int32)).toInt := tneq c49
                      have q55 := li_10
                      refine zok_ite (fun c54 => ?_) (fun c54 => ?_)
                      · have q56 : (v1).toInt = ((10 : Int32)).toInt := teq c54
                        have q57 : (0 : Int) ≤ ((zI s0 11)).toInt ∧ ((zI s0 11)).toInt ≤ 8 := (h_s0).1 11
                        exact zok_some (show (-9 : Int) ≤ ((zI s0 11)).toInt ∧ ((zI s0 11)).toInt ≤ 100000 from ⟨by omega, by omega⟩)
                      · have q58 : (v1).toInt ≠ ((10 : Int32)).toInt := tneq c54
                        have q59 := li_m1
                        exact zok_some (show (-9 : Int) ≤ (((-1) : Int32)).toInt ∧ (((-1) : Int32)).toInt ≤ 100000 from ⟨by omega, by omega⟩)
theorem t_CH_about (N : Nat) (hN : 50000000 ≤ N) (s0 : zSt) (s1 : zSt) (s2 : zSt) (s3 : zSt) (v1 : Int32) (h_s0 : I_CH s0) (h_s1 : I_Entries s1) (h_s2 : I_Earnest s2) (h_s3 : I_Valley s3) : zok (CH_about N s0 s1 s2 s3 v1) (fun z => ((-9 : Int) ≤ (z).toInt ∧ (z).toInt ≤ 100000)) :=
  t_CH_about_b0 N hN s0 s1 s2 s3 v1  h_s0 h_s1 h_s2 h_s3 
theorem t_Mo_end_b0 (N : Nat) (hN : 50000000 ≤ N) (s0 : zSt) (v1 : Int32) (gs0 : zSt) (h_s0 : I_Mo s0) (g_s0 : Fr [1] [] s0 gs0) : zok (Mo_end_b0 N s0 v1) (fun z => ((-1 : Int) ≤ (z.1).toInt ∧ (z.1).toInt ≤ 1500) ∧ I_Mo z.2 ∧ Fr [1] [] z.2 gs0) := by
  rw [Mo_end_b0]
  have q2 := tr v1
  have q3 := li_0
  refine zok_ite (fun c1 => ?_) (fun c1 => ?_)
  · have q4 : (v1).toInt < ((0 : Int32)).toInt := tlt c1
    have q5 := li_m1
    exact zok_some ⟨(show (-1 : Int) ≤ (((-1) : Int32)).toInt ∧ (((-1) : Int32)).toInt ≤ 1500 from ⟨by omega, by omega⟩), h_s0, g_s0⟩
  · have q6 : (v1).toInt ≥ ((0 : Int32)).toInt := tnlt c1
    have q8 : (0 : Int) ≤ ((zI s0 1)).toInt ∧ ((zI s0 1)).toInt ≤ 1500 := (h_s0).1 1
    refine zok_ite (fun c7 => ?_) (fun c7 => ?_)
    · have q9 : (v1).toInt ≤ ((zI s0 1)).toInt := tle c7
      exact zok_some ⟨(show (-1 : Int) ≤ (v1).toInt ∧ (v1).toInt ≤ 1500 from ⟨by omega, by omega⟩), (IS.pI 1 v1 h_s0 (show (0 : Int) ≤ (v1).toInt ∧ (v1).toInt ≤ 1500 from ⟨by omega, by omega⟩)), (Fr.pI g_s0 rfl)⟩
    · have q10 : (v1).toInt > ((zI s0 1)).toInt := tnle c7
      have q11 := li_m1
      exact zok_some ⟨(show (-1 : Int) ≤ (((-1) : Int32)).toInt ∧ (((-1) : Int32)).toInt ≤ 1500 from ⟨by omega, by omega⟩), h_s0, g_s0⟩
theorem t_Mo_end (N : Nat) (hN : 50000000 ≤ N) (s0 : zSt) (v1 : Int32) (h_s0 : I_Mo s0) : zok (Mo_end N s0 v1) (fun z => ((-1 : Int) ≤ (z.1).toInt ∧ (z.1).toInt ≤ 1500) ∧ I_Mo z.2 ∧ Fr [1] [] z.2 s0) :=
  t_Mo_end_b0 N hN s0 v1 s0 h_s0 ⟨fun _ _ => rfl, fun _ _ => rfl⟩
theorem t_Mo_beastSet_b4 (N : Nat) (hN : 50000000 ≤ N) (kh4 : Int32 → Int32 → Option (Int32)) (m4 : Int) (s0 : zSt) (v1 : Int32) (v2 : Int32) (hkh4 : ∀ (v1 : Int32) (v2 : Int32), (0 : Int) ≤ (v1).toInt ∧ (v1).toInt ≤ 2047 → (0 : Int) ≤ (v2).toInt ∧ (v2).toInt ≤ 9 → 10 - (v2).toInt ≤ m4 - 1 → zok (kh4 v1 v2) (fun z => ((0 : Int) ≤ (z).toInt ∧ (z).toInt ≤ 2047))) (h_s0 : I_Mo s0) (h_v1 : (0 : Int) ≤ (v1).toInt ∧ (v1).toInt ≤ 2047) (h_v2 : (0 : Int) ≤ (v2).toInt ∧ (v2).toInt ≤ 9) (hm4 : 10 - (v2).toInt ≤ m4) : zok (Mo_beastSet_b4 N kh4 s0 v1 v2) (fun z => ((0 : Int) ≤ (z).toInt ∧ (z).toInt ≤ 2047)) := by
  rw [Mo_beastSet_b4]
  have q2 : (0 : Int) ≤ ((zI s0 30)).toInt ∧ ((zI s0 30)).toInt ≤ 9 := (h_s0).1 30
  refine zok_ite (fun c1 => ?_) (fun c1 => ?_)
  · have q3 : ((zI s0 30)).toInt ≤ (v2).toInt := tle c1
    exact zok_some (show (0 : Int) ≤ (v1).toInt ∧ (v1).toInt ≤ 2047 from ⟨by omega, by omega⟩)
  · have q4 : ((zI s0 30)).toInt > (v2).toInt := tnle c1
    refine zok_ck (show vp_in v2 9 from vin (by omega) (by omega)) ?_
    have q5 : (0 : Int) ≤ (((zA s0 21) (Int32.toNatClampNeg v2))).toInt ∧ (((zA s0 21) (Int32.toNatClampNeg v2))).toInt ≤ 10 := (h_s0).2 21 _
    have q6 := tshl ((zA s0 21) (Int32.toNatClampNeg v2)) 10 (by decide) (by omega) (by omega)
    have q7 := tor v1 ((1 : Int32) <<< (((zA s0 21) (Int32.toNatClampNeg v2)) &&& (31 : Int32))) 11 (by decide) (by omega) (by omega) (by omega) (by omega)
    have q8 := li_1
    have q9 := tadd v2 (1 : Int32) (by omega) (by omega)
    exact hkh4 _ _ (show (0 : Int) ≤ ((v1 ||| ((1 : Int32) <<< (((zA s0 21) (Int32.toNatClampNeg v2)) &&& (31 : Int32))))).toInt ∧ ((v1 ||| ((1 : Int32) <<< (((zA s0 21) (Int32.toNatClampNeg v2)) &&& (31 : Int32))))).toInt ≤ 2047 from ⟨by omega, by omega⟩) (show (0 : Int) ≤ ((v2 + (1 : Int32))).toInt ∧ ((v2 + (1 : Int32))).toInt ≤ 9 from ⟨by omega, by omega⟩) (show 10 - ((v2 + (1 : Int32))).toInt ≤ m4 - 1 by omega)
theorem t_Mo_beastSet_h4 (N : Nat) (hN : 50000000 ≤ N) (s0 : zSt) (h_s0 : I_Mo s0) : ∀ (n : Nat) (v1 : Int32) (v2 : Int32), (0 : Int) ≤ (v1).toInt ∧ (v1).toInt ≤ 2047 → (0 : Int) ≤ (v2).toInt ∧ (v2).toInt ≤ 9 → 10 - (v2).toInt ≤ (n : Int) → zok (Mo_beastSet_h4 N s0 n v1 v2) (fun z => ((0 : Int) ≤ (z).toInt ∧ (z).toInt ≤ 2047))
  | 0, v1, v2, h_v1, h_v2, hm => absurd hm (by omega)
  | n + 1, v1, v2, h_v1, h_v2, hm => by
    rw [Mo_beastSet_h4_s]
    exact t_Mo_beastSet_b4 N hN (Mo_beastSet_h4 N s0 n) ((n + 1 : Nat) : Int) s0 v1 v2  (fun v1 v2 h_v1 h_v2 q => t_Mo_beastSet_h4 N hN  s0   h_s0   n v1 v2 h_v1 h_v2 (by omega)) h_s0 h_v1 h_v2  hm
theorem t_Mo_beastSet_b0 (N : Nat) (hN : 50000000 ≤ N) (s0 : zSt) (h_s0 : I_Mo s0) : zok (Mo_beastSet_b0 N s0) (fun z => ((0 : Int) ≤ (z).toInt ∧ (z).toInt ≤ 2047)) := by
  rw [Mo_beastSet_b0]
  have q1 := li_0
  exact t_Mo_beastSet_h4 N hN  _   h_s0  N _ _ (show (0 : Int) ≤ ((0 : Int32)).toInt ∧ ((0 : Int32)).toInt ≤ 2047 from ⟨by omega, by omega⟩) (show (0 : Int) ≤ ((0 : Int32)).toInt ∧ ((0 : Int32)).toInt ≤ 9 from ⟨by omega, by omega⟩) (show 10 - ((0 : Int32)).toInt ≤ (N : Int) from by omega)
theorem t_Mo_beastSet (N : Nat) (hN : 50000000 ≤ N) (s0 : zSt) (h_s0 : I_Mo s0) : zok (Mo_beastSet N s0) (fun z => ((0 : Int) ≤ (z).toInt ∧ (z).toInt ≤ 2047)) :=
  t_Mo_beastSet_b0 N hN s0  h_s0 
theorem t_Mo_fault_b0 (N : Nat) (hN : 50000000 ≤ N) (s0 : zSt) (v1 : Int32) (h_s0 : I_Mo s0) : zok (Mo_fault_b0 N s0 v1) (fun z => True) := by
  rw [Mo_fault_b0]
  have q2 := tr v1
  have q3 := li_0
  refine zok_ite (fun c1 => ?_) (fun c1 => ?_)
  · have q4 : (v1).toInt = ((0 : Int32)).toInt := teq c1
    exact zok_some trivial
  · have q5 : (v1).toInt ≠ ((0 : Int32)).toInt := tneq c1
    have q7 := li_1
    refine zok_ite (fun c6 => ?_) (fun c6 => ?_)
    · have q8 : (v1).toInt = ((1 : Int32)).toInt := teq c6
      exact zok_some trivial
    · have q9 : (v1).toInt ≠ ((1 : Int32)).toInt := tneq c6
      exact zok_some trivial
theorem t_Mo_fault (N : Nat) (hN : 50000000 ≤ N) (s0 : zSt) (v1 : Int32) (h_s0 : I_Mo s0) : zok (Mo_fault N s0 v1) (fun z => True) :=
  t_Mo_fault_b0 N hN s0 v1  h_s0 
theorem t_Mo_isIn_b0 (N : Nat) (hN : 50000000 ≤ N) (v0 : Int32) (v1 : Int32) (v2 : Int32) (h_v1 : (0 : Int) ≤ (v1).toInt ∧ (v1).toInt ≤ 999) (h_v2 : (-1 : Int) ≤ (v2).toInt ∧ (v2).toInt ≤ 4095) : zok (Mo_isIn_b0 N v0 v1 v2) (fun z => ((0 : Int) ≤ (z).toInt ∧ (z).toInt ≤ 1)) := by
  rw [Mo_isIn_b0]
  have q2 := tr v0
  refine zok_ite (fun c1 => ?_) (fun c1 => ?_)
  · have q3 : (v0).toInt < (v1).toInt := tlt c1
    have q4 := li_0
    exact zok_some (show (0 : Int) ≤ ((0 : Int32)).toInt ∧ ((0 : Int32)).toInt ≤ 1 from ⟨by omega, by omega⟩)
  · have q5 : (v0).toInt ≥ (v1).toInt := tnlt c1
    refine zok_ite (fun c6 => ?_) (fun c6 => ?_)
    · have q7 : (v2).toInt < (v0).toInt := tlt c6
      have q8 := li_0
      exact zok_some (show (0 : Int) ≤ ((0 : Int32)).toInt ∧ ((0 : Int32)).toInt ≤ 1 from ⟨by omega, by omega⟩)
    · have q9 : (v2).toInt ≥ (v0).toInt := tnlt c6
      have q10 := li_1
      exact zok_some (show (0 : Int) ≤ ((1 : Int32)).toInt ∧ ((1 : Int32)).toInt ≤ 1 from ⟨by omega, by omega⟩)
theorem t_Mo_isIn (N : Nat) (hN : 50000000 ≤ N) (v0 : Int32) (v1 : Int32) (v2 : Int32) (h_v1 : (0 : Int) ≤ (v1).toInt ∧ (v1).toInt ≤ 999) (h_v2 : (-1 : Int) ≤ (v2).toInt ∧ (v2).toInt ≤ 4095) : zok (Mo_isIn N v0 v1 v2) (fun z => ((0 : Int) ≤ (z).toInt ∧ (z).toInt ≤ 1)) :=
  t_Mo_isIn_b0 N hN v0 v1 v2  h_v1 h_v2 
theorem t_Mo_isBell_b0 (N : Nat) (hN : 50000000 ≤ N) (s0 : zSt) (v1 : Int32) (h_s0 : I_Mo s0) : zok (Mo_isBell_b0 N s0 v1) (fun z => ((0 : Int) ≤ (z).toInt ∧ (z).toInt ≤ 1)) := by
  rw [Mo_isBell_b0]
  have q1 := li_0
  have q2 : (0 : Int) ≤ ((zI s0 29)).toInt ∧ ((zI s0 29)).toInt ≤ 11 := (h_s0).1 29
  have q3 := li_1
  have q4 := tsub (zI s0 29) (1 : Int32) (by omega) (by omega)
  rcases u_Mo_isIn N v1 (0 : Int32) ((zI s0 29) - (1 : Int32))  with w5 | ⟨w5, w5_0, w5_1⟩ <;> rw [w5, zbs]
  · refine zok_cb (by decide) ?_
    exact zok_some (show (0 : Int) ≤ ((0 : Int32)).toInt ∧ ((0 : Int32)).toInt ≤ 1 from ⟨by omega, by omega⟩)
  · have q6 := tr v1
    have q7 : ((0 : Int32)).toInt ≤ (v1).toInt := w5_0
    have q8 : (v1).toInt ≤ (((zI s0 29) - (1 : Int32))).toInt := w5_1
    refine zok_cb (by decide) ?_
    exact zok_some (show (0 : Int) ≤ ((1 : Int32)).toInt ∧ ((1 : Int32)).toInt ≤ 1 from ⟨by omega, by omega⟩)
theorem t_Mo_isBell (N : Nat) (hN : 50000000 ≤ N) (s0 : zSt) (v1 : Int32) (h_s0 : I_Mo s0) : zok (Mo_isBell N s0 v1) (fun z => ((0 : Int) ≤ (z).toInt ∧ (z).toInt ≤ 1)) :=
  t_Mo_isBell_b0 N hN s0 v1  h_s0 
theorem t_Mo_isEar_b0 (N : Nat) (hN : 50000000 ≤ N) (s0 : zSt) (v1 : Int32) (h_s0 : I_Mo s0) : zok (Mo_isEar_b0 N s0 v1) (fun z => ((0 : Int) ≤ (z).toInt ∧ (z).toInt ≤ 1)) := by
  rw [Mo_isEar_b0]
  have q1 := li_0
  have q2 : (0 : Int) ≤ ((zI s0 32)).toInt ∧ ((zI s0 32)).toInt ≤ 4 := (h_s0).1 32
  have q3 := li_1
  have q4 := tsub (zI s0 32) (1 : Int32) (by omega) (by omega)
  rcases u_Mo_isIn N v1 (0 : Int32) ((zI s0 32) - (1 : Int32))  with w5 | ⟨w5, w5_0, w5_1⟩ <;> rw [w5, zbs]
  · refine zok_cb (by decide) ?_
    exact zok_some (show (0 : Int) ≤ ((0 : Int32)).toInt ∧ ((0 : Int32)).toInt ≤ 1 from ⟨by omega, by omega⟩)
  · have q6 := tr v1
    have q7 : ((0 : Int32)).toInt ≤ (v1).toInt := w5_0
    have q8 : (v1).toInt ≤ (((zI s0 32) - (1 : Int32))).toInt := w5_1
    refine zok_cb (by decide) ?_
    exact zok_some (show (0 : Int) ≤ ((1 : Int32)).toInt ∧ ((1 : Int32)).toInt ≤ 1 from ⟨by omega, by omega⟩)
theorem t_Mo_isEar (N : Nat) (hN : 50000000 ≤ N) (s0 : zSt) (v1 : Int32) (h_s0 : I_Mo s0) : zok (Mo_isEar N s0 v1) (fun z => ((0 : Int) ≤ (z).toInt ∧ (z).toInt ≤ 1)) :=
  t_Mo_isEar_b0 N hN s0 v1  h_s0 
theorem t_Mo_modulo (N : Nat) (hN : 50000000 ≤ N) (v0 : Int32) : zok (Mo_modulo N v0) (fun z => ((0 : Int) ≤ (z).toInt ∧ (z).toInt ≤ 11)) := by
  unfold Mo_modulo Mo_modulo_b0
  have a := trem12 v0
  have l : (12 : Int32).toInt = 12 := by decide
  have b := tadd (v0 - v0 / 12 * 12) 12 (by omega) (by omega)
  have c := trem12 (v0 - v0 / 12 * 12 + 12)
  exact zok_some ⟨by omega, by omega⟩
theorem t_Mo_toneNow_b0 (N : Nat) (hN : 50000000 ≤ N) (s0 : zSt) (v1 : Int32) (h_s0 : I_Mo s0) (h_v1 : (0 : Int) ≤ (v1).toInt ∧ (v1).toInt ≤ 10) : zok (Mo_toneNow_b0 N s0 v1) (fun z => ((0 : Int) ≤ (z).toInt ∧ (z).toInt ≤ 11)) := by
  rw [Mo_toneNow_b0]
  refine zok_ck (show vp_in v1 11 from vin (by omega) (by omega)) ?_
  refine zok_ck (show vp_in v1 11 from vin (by omega) (by omega)) ?_
  refine zok_bind (t_Mo_modulo N hN (((zA s0 16) (Int32.toNatClampNeg v1)) - (((zA s0 33) (Int32.toNatClampNeg v1)) * (zI s0 38))) ) (fun z3 hz3 => ?_)
  have h_z3 := hz3
  exact zok_some (show (0 : Int) ≤ (z3).toInt ∧ (z3).toInt ≤ 11 from ⟨by omega, by omega⟩)
theorem t_Mo_toneNow (N : Nat) (hN : 50000000 ≤ N) (s0 : zSt) (v1 : Int32) (h_s0 : I_Mo s0) (h_v1 : (0 : Int) ≤ (v1).toInt ∧ (v1).toInt ≤ 10) : zok (Mo_toneNow N s0 v1) (fun z => ((0 : Int) ≤ (z).toInt ∧ (z).toInt ≤ 11)) :=
  t_Mo_toneNow_b0 N hN s0 v1  h_s0 h_v1 
theorem t_Mo_loudAt_b29 (N : Nat) (hN : 50000000 ≤ N) (s0 : zSt) (v4 : Int32) (t0 : Int32) (t1 : Int32) (h_s0 : I_Mo s0) (h_s0_29 : (1 : Int) ≤ (zI s0 29).toInt ∧ (zI s0 29).toInt ≤ 11) : zok (Mo_loudAt_b29 N s0 v4 t0 t1) (fun z => ((0 : Int) ≤ (z).toInt ∧ (z).toInt ≤ 2147483647)) := by
  rw [Mo_loudAt_b29]
  have q2 := li_0
  have q3 := tr ((t0 - t1) - v4)
  refine zok_ite (fun c1 => ?_) (fun c1 => ?_)
  · have q4 : ((0 : Int32)).toInt ≤ (((t0 - t1) - v4)).toInt := tle c1
    exact zok_some (show (0 : Int) ≤ (((t0 - t1) - v4)).toInt ∧ (((t0 - t1) - v4)).toInt ≤ 2147483647 from ⟨by omega, by omega⟩)
  · have q5 : ((0 : Int32)).toInt > (((t0 - t1) - v4)).toInt := tnle c1
    exact zok_some (show (0 : Int) ≤ ((0 : Int32)).toInt ∧ ((0 : Int32)).toInt ≤ 2147483647 from ⟨by omega, by omega⟩)
theorem t_Mo_loudAt_b0 (N : Nat) (hN : 50000000 ≤ N) (s0 : zSt) (v1 : Int32) (v2 : Int32) (v3 : Int32) (v4 : Int32) (h_s0 : I_Mo s0) (h_s0_29 : (1 : Int) ≤ (zI s0 29).toInt ∧ (zI s0 29).toInt ≤ 11) (h_v1 : (0 : Int) ≤ (v1).toInt ∧ (v1).toInt ≤ 10) (h_v2 : (0 : Int) ≤ (v2).toInt ∧ (v2).toInt ≤ 3) : zok (Mo_loudAt_b0 N s0 v1 v2 v3 v4) (fun z => ((0 : Int) ≤ (z).toInt ∧ (z).toInt ≤ 2147483647)) := by
  rw [Mo_loudAt_b0]
  refine zok_ck (show vp_in v2 4 from vin (by omega) (by omega)) ?_
  refine zok_ck (show vp_in v1 11 from vin (by omega) (by omega)) ?_
  have q2 := li_0
  have q3 := tr (((zA s0 19) (Int32.toNatClampNeg v2)) - v3)
  refine zok_ite (fun c1 => ?_) (fun c1 => ?_)
  · have q4 : ((0 : Int32)).toInt ≤ ((((zA s0 19) (Int32.toNatClampNeg v2)) - v3)).toInt := tle c1
    have q5 : (0 : Int) ≤ ((zI s0 29)).toInt ∧ ((zI s0 29)).toInt ≤ 11 := (h_s0).1 29
    exact t_Mo_loudAt_b29 N hN  _ _ _ _   h_s0 (show (1 : Int) ≤ ((zI s0 29)).toInt ∧ ((zI s0 29)).toInt ≤ 11 from ⟨by omega, by omega⟩) 
  · have q6 : ((0 : Int32)).toInt > ((((zA s0 19) (Int32.toNatClampNeg v2)) - v3)).toInt := tnle c1
    have q7 : (0 : Int) ≤ ((zI s0 29)).toInt ∧ ((zI s0 29)).toInt ≤ 11 := (h_s0).1 29
    exact t_Mo_loudAt_b29 N hN  _ _ _ _   h_s0 (show (1 : Int) ≤ ((zI s0 29)).toInt ∧ ((zI s0 29)).toInt ≤ 11 from ⟨by omega, by omega⟩) 
theorem t_Mo_loudAt (N : Nat) (hN : 50000000 ≤ N) (s0 : zSt) (v1 : Int32) (v2 : Int32) (v3 : Int32) (v4 : Int32) (h_s0 : I_Mo s0) (h_s0_29 : (1 : Int) ≤ (zI s0 29).toInt ∧ (zI s0 29).toInt ≤ 11) (h_v1 : (0 : Int) ≤ (v1).toInt ∧ (v1).toInt ≤ 10) (h_v2 : (0 : Int) ≤ (v2).toInt ∧ (v2).toInt ≤ 3) : zok (Mo_loudAt N s0 v1 v2 v3 v4) (fun z => ((0 : Int) ≤ (z).toInt ∧ (z).toInt ≤ 2147483647)) :=
  t_Mo_loudAt_b0 N hN s0 v1 v2 v3 v4  h_s0 h_s0_29 h_v1 h_v2 
theorem t_Mo_bell_b0 (N : Nat) (hN : 50000000 ≤ N) (s0 : zSt) (v1 : Int32) (v2 : Int32) (h_s0 : I_Mo s0) : zok (Mo_bell_b0 N s0 v1 v2) (fun z => True) := by
  rw [Mo_bell_b0]
  rcases u_Mo_isBell N s0 v1  with w1 | ⟨w1, w1_0, w1_1⟩ <;> rw [w1, zbs]
  · refine zok_t (by decide) ?_
    exact zok_some trivial
  · have q2 := li_0
    have q3 := tr v1
    have q4 : ((0 : Int32)).toInt ≤ (v1).toInt := w1_0
    have q5 : (0 : Int) ≤ ((zI s0 29)).toInt ∧ ((zI s0 29)).toInt ≤ 11 := (h_s0).1 29
    have q6 := li_1
    have q7 := tsub (zI s0 29) (1 : Int32) (by omega) (by omega)
    have q8 : (v1).toInt ≤ (((zI s0 29) - (1 : Int32))).toInt := w1_1
    refine zok_f (by decide) ?_
    have q10 := tr v2
    refine zok_ite (fun c9 => ?_) (fun c9 => ?_)
    · have q11 : (v2).toInt = ((0 : Int32)).toInt := teq c9
      refine zok_bind (t_Mo_toneNow N hN s0 v1 h_s0 (show (0 : Int) ≤ (v1).toInt ∧ (v1).toInt ≤ 10 from ⟨by omega, by omega⟩)) (fun z5 hz5 => ?_)
      have h_z5 := hz5
      exact zok_some trivial
    · have q12 : (v2).toInt ≠ ((0 : Int32)).toInt := tneq c9
      refine zok_ite (fun c13 => ?_) (fun c13 => ?_)
      · have q14 : (v2).toInt = ((1 : Int32)).toInt := teq c13
        refine zok_ck (show vp_in v1 11 from vin (by omega) (by omega)) ?_
        exact zok_some trivial
      · have q15 : (v2).toInt ≠ ((1 : Int32)).toInt := tneq c13
        have q17 := li_2
        refine zok_ite (fun c16 => ?_) (fun c16 => ?_)
        · have q18 : (v2).toInt = ((2 : Int32)).toInt := teq c16
          refine zok_ck (show vp_in v1 11 from vin (by omega) (by omega)) ?_
          exact zok_some trivial
        · have q19 : (v2).toInt ≠ ((2 : Int32)).toInt := tneq c16
          have q21 := li_3
          refine zok_ite (fun c20 => ?_) (fun c20 => ?_)
          · have q22 : (v2).toInt = ((3 : Int32)).toInt := teq c20
            refine zok_ck (show vp_in v1 11 from vin (by omega) (by omega)) ?_
            exact zok_some trivial
          · have q23 : (v2).toInt ≠ ((3 : Int32)).toInt := tneq c20
            have q25 := li_4
            refine zok_ite (fun c24 => ?_) (fun c24 => ?_)
            · have q26 : (v2).toInt = ((4 : Int32)).toInt := teq c24
              exact zok_some trivial
            · have q27 : (v2).toInt ≠ ((4 : Int32)).toInt := tneq c24
              have q29 := li_5
              refine zok_ite (fun c28 => ?_) (fun c28 => ?_)
              · have q30 : (v2).toInt = ((5 : Int32)).toInt := teq c28
                exact zok_some trivial
              · have q31 : (v2).toInt ≠ ((5 : Int32)).toInt := tneq c28
                exact zok_some trivial
theorem t_Mo_bell (N : Nat) (hN : 50000000 ≤ N) (s0 : zSt) (v1 : Int32) (v2 : Int32) (h_s0 : I_Mo s0) : zok (Mo_bell N s0 v1 v2) (fun z => True) :=
  t_Mo_bell_b0 N hN s0 v1 v2  h_s0 
theorem t_Mo_heard_b69 (N : Nat) (hN : 50000000 ≤ N) (kh5 : Int32 → Int32 → Option (Int32)) (m5 : Int) (s0 : zSt) (v1 : Int32) (v2 : Int32) (v4 : Int32) (t0 : Int32) (t1 : Int32) (hkh5 : ∀ (v3 : Int32) (v4 : Int32), (0 : Int) ≤ (v4).toInt ∧ (v4).toInt ≤ 11 → 12 - (v4).toInt ≤ m5 - 1 → zok (kh5 v3 v4) (fun z => True)) (h_s0 : I_Mo s0) (h_s0_29 : (1 : Int) ≤ (zI s0 29).toInt ∧ (zI s0 29).toInt ≤ 11) (h_v1 : (0 : Int) ≤ (v1).toInt ∧ (v1).toInt ≤ 3) (h_v2 : (0 : Int) ≤ (v2).toInt ∧ (v2).toInt ≤ 11) (h_v4 : (0 : Int) ≤ (v4).toInt ∧ (v4).toInt ≤ 10) (h_t1 : (0 : Int) ≤ (t1).toInt ∧ (t1).toInt ≤ 2147483647) (hm5 : 12 - (v4).toInt ≤ m5) : zok (Mo_heard_b69 N kh5 s0 v1 v2 v4 t0 t1) (fun z => True) := by
  rw [Mo_heard_b69]
  have q1 := li_1
  have q2 := tadd v4 (1 : Int32) (by omega) (by omega)
  exact hkh5 _ _ (show (0 : Int) ≤ ((v4 + (1 : Int32))).toInt ∧ ((v4 + (1 : Int32))).toInt ≤ 11 from ⟨by omega, by omega⟩) (show 12 - ((v4 + (1 : Int32))).toInt ≤ m5 - 1 by omega)
theorem t_Mo_heard_b68 (N : Nat) (hN : 50000000 ≤ N) (kh5 : Int32 → Int32 → Option (Int32)) (m5 : Int) (s0 : zSt) (v1 : Int32) (v2 : Int32) (v4 : Int32) (t0 : Int32) (hkh5 : ∀ (v3 : Int32) (v4 : Int32), (0 : Int) ≤ (v4).toInt ∧ (v4).toInt ≤ 11 → 12 - (v4).toInt ≤ m5 - 1 → zok (kh5 v3 v4) (fun z => True)) (h_s0 : I_Mo s0) (h_s0_29 : (1 : Int) ≤ (zI s0 29).toInt ∧ (zI s0 29).toInt ≤ 11) (h_v1 : (0 : Int) ≤ (v1).toInt ∧ (v1).toInt ≤ 3) (h_v2 : (0 : Int) ≤ (v2).toInt ∧ (v2).toInt ≤ 11) (h_v4 : (0 : Int) ≤ (v4).toInt ∧ (v4).toInt ≤ 10) (hm5 : 12 - (v4).toInt ≤ m5) : zok (Mo_heard_b68 N kh5 s0 v1 v2 v4 t0) (fun z => True) := by
  rw [Mo_heard_b68]
  have q1 : (0 : Int) ≤ ((zI s0 29)).toInt ∧ ((zI s0 29)).toInt ≤ 11 := (h_s0).1 29
  have q2 := li_0
  exact t_Mo_heard_b69 N hN kh5 m5 _ _ _ _ _ _  hkh5 h_s0 (show (1 : Int) ≤ ((zI s0 29)).toInt ∧ ((zI s0 29)).toInt ≤ 11 from ⟨by omega, by omega⟩) (show (0 : Int) ≤ (v1).toInt ∧ (v1).toInt ≤ 3 from ⟨by omega, by omega⟩) (show (0 : Int) ≤ (v2).toInt ∧ (v2).toInt ≤ 11 from ⟨by omega, by omega⟩) (show (0 : Int) ≤ (v4).toInt ∧ (v4).toInt ≤ 10 from ⟨by omega, by omega⟩) (show (0 : Int) ≤ ((0 : Int32)).toInt ∧ ((0 : Int32)).toInt ≤ 2147483647 from ⟨by omega, by omega⟩) (show 12 - (v4).toInt ≤ m5 from by omega)
theorem t_Mo_heard_b5 (N : Nat) (hN : 50000000 ≤ N) (kh5 : Int32 → Int32 → Option (Int32)) (m5 : Int) (s0 : zSt) (v1 : Int32) (v2 : Int32) (v3 : Int32) (v4 : Int32) (hkh5 : ∀ (v3 : Int32) (v4 : Int32), (0 : Int) ≤ (v4).toInt ∧ (v4).toInt ≤ 11 → 12 - (v4).toInt ≤ m5 - 1 → zok (kh5 v3 v4) (fun z => True)) (h_s0 : I_Mo s0) (h_v1 : (0 : Int) ≤ (v1).toInt ∧ (v1).toInt ≤ 3) (h_v2 : (0 : Int) ≤ (v2).toInt ∧ (v2).toInt ≤ 11) (h_v4 : (0 : Int) ≤ (v4).toInt ∧ (v4).toInt ≤ 11) (hm5 : 12 - (v4).toInt ≤ m5) : zok (Mo_heard_b5 N kh5 s0 v1 v2 v3 v4) (fun z => True) := by
  rw [Mo_heard_b5]
  have q2 : (0 : Int) ≤ ((zI s0 29)).toInt ∧ ((zI s0 29)).toInt ≤ 11 := (h_s0).1 29
  refine zok_ite (fun c1 => ?_) (fun c1 => ?_)
  · have q3 : ((zI s0 29)).toInt ≤ (v4).toInt := tle c1
    exact zok_some trivial
  · have q4 : ((zI s0 29)).toInt > (v4).toInt := tnle c1
    refine zok_ite (fun c5 => ?_) (fun c5 => ?_)
    · refine zok_ite (fun c6 => ?_) (fun c6 => ?_)
      · refine zok_bind (t_Mo_toneNow N hN s0 v4 h_s0 (show (0 : Int) ≤ (v4).toInt ∧ (v4).toInt ≤ 10 from ⟨by omega, by omega⟩)) (fun z4 hz4 => ?_)
        have h_z4 := hz4
        refine zok_ite (fun c7 => ?_) (fun c7 => ?_)
        · have q8 : (z4).toInt = (v2).toInt := teq c7
          refine zok_bind (t_Mo_loudAt N hN s0 v4 v1 (zI s0 36) (zI s0 37) h_s0 (show (1 : Int) ≤ ((zI s0 29)).toInt ∧ ((zI s0 29)).toInt ≤ 11 from ⟨by omega, by omega⟩) (show (0 : Int) ≤ (v4).toInt ∧ (v4).toInt ≤ 10 from ⟨by omega, by omega⟩) (show (0 : Int) ≤ (v1).toInt ∧ (v1).toInt ≤ 3 from ⟨by omega, by omega⟩)) (fun z7 hz7 => ?_)
          have h_z7 := hz7
          exact t_Mo_heard_b69 N hN kh5 m5 _ _ _ _ _ _  hkh5 h_s0 (show (1 : Int) ≤ ((zI s0 29)).toInt ∧ ((zI s0 29)).toInt ≤ 11 from ⟨by omega, by omega⟩) (show (0 : Int) ≤ (v1).toInt ∧ (v1).toInt ≤ 3 from ⟨by omega, by omega⟩) (show (0 : Int) ≤ (v2).toInt ∧ (v2).toInt ≤ 11 from ⟨by omega, by omega⟩) (show (0 : Int) ≤ (v4).toInt ∧ (v4).toInt ≤ 10 from ⟨by omega, by omega⟩) (show (0 : Int) ≤ (z7).toInt ∧ (z7).toInt ≤ 2147483647 from ⟨by omega, by omega⟩) (show 12 - (v4).toInt ≤ m5 from by omega)
        · have q9 : (z4).toInt ≠ (v2).toInt := tneq c7
          exact t_Mo_heard_b68 N hN kh5 m5 _ _ _ _ _  hkh5 h_s0 (show (1 : Int) ≤ ((zI s0 29)).toInt ∧ ((zI s0 29)).toInt ≤ 11 from ⟨by omega, by omega⟩) (show (0 : Int) ≤ (v1).toInt ∧ (v1).toInt ≤ 3 from ⟨by omega, by omega⟩) (show (0 : Int) ≤ (v2).toInt ∧ (v2).toInt ≤ 11 from ⟨by omega, by omega⟩) (show (0 : Int) ≤ (v4).toInt ∧ (v4).toInt ≤ 10 from ⟨by omega, by omega⟩) (show 12 - (v4).toInt ≤ m5 from by omega)
      · exact t_Mo_heard_b68 N hN kh5 m5 _ _ _ _ _  hkh5 h_s0 (show (1 : Int) ≤ ((zI s0 29)).toInt ∧ ((zI s0 29)).toInt ≤ 11 from ⟨by omega, by omega⟩) (show (0 : Int) ≤ (v1).toInt ∧ (v1).toInt ≤ 3 from ⟨by omega, by omega⟩) (show (0 : Int) ≤ (v2).toInt ∧ (v2).toInt ≤ 11 from ⟨by omega, by omega⟩) (show (0 : Int) ≤ (v4).toInt ∧ (v4).toInt ≤ 10 from ⟨by omega, by omega⟩) (show 12 - (v4).toInt ≤ m5 from by omega)
    · exact t_Mo_heard_b68 N hN kh5 m5 _ _ _ _ _  hkh5 h_s0 (show (1 : Int) ≤ ((zI s0 29)).toInt ∧ ((zI s0 29)).toInt ≤ 11 from ⟨by omega, by omega⟩) (show (0 : Int) ≤ (v1).toInt ∧ (v1).toInt ≤ 3 from ⟨by omega, by omega⟩) (show (0 : Int) ≤ (v2).toInt ∧ (v2).toInt ≤ 11 from ⟨by omega, by omega⟩) (show (0 : Int) ≤ (v4).toInt ∧ (v4).toInt ≤ 10 from ⟨by omega, by omega⟩) (show 12 - (v4).toInt ≤ m5 from by omega)
theorem t_Mo_heard_h5 (N : Nat) (hN : 50000000 ≤ N) (s0 : zSt) (v1 : Int32) (v2 : Int32) (h_s0 : I_Mo s0) (h_v1 : (0 : Int) ≤ (v1).toInt ∧ (v1).toInt ≤ 3) (h_v2 : (0 : Int) ≤ (v2).toInt ∧ (v2).toInt ≤ 11) : ∀ (n : Nat) (v3 : Int32) (v4 : Int32), (0 : Int) ≤ (v4).toInt ∧ (v4).toInt ≤ 11 → 12 - (v4).toInt ≤ (n : Int) → zok (Mo_heard_h5 N s0 v1 v2 n v3 v4) (fun z => True)
  | 0, v3, v4, h_v4, hm => absurd hm (by omega)
  | n + 1, v3, v4, h_v4, hm => by
    rw [Mo_heard_h5_s]
    exact t_Mo_heard_b5 N hN (Mo_heard_h5 N s0 v1 v2 n) ((n + 1 : Nat) : Int) s0 v1 v2 v3 v4  (fun v3 v4 h_v4 q => t_Mo_heard_h5 N hN  s0 v1 v2   h_s0 h_v1 h_v2   n v3 v4 h_v4 (by omega)) h_s0 h_v1 h_v2 h_v4  hm
theorem t_Mo_heard_b0 (N : Nat) (hN : 50000000 ≤ N) (s0 : zSt) (v1 : Int32) (v2 : Int32) (h_s0 : I_Mo s0) (h_v1 : (0 : Int) ≤ (v1).toInt ∧ (v1).toInt ≤ 3) (h_v2 : (0 : Int) ≤ (v2).toInt ∧ (v2).toInt ≤ 11) : zok (Mo_heard_b0 N s0 v1 v2) (fun z => True) := by
  rw [Mo_heard_b0]
  have q1 := li_0
  exact t_Mo_heard_h5 N hN  _ _ _   h_s0 (show (0 : Int) ≤ (v1).toInt ∧ (v1).toInt ≤ 3 from ⟨by omega, by omega⟩) (show (0 : Int) ≤ (v2).toInt ∧ (v2).toInt ≤ 11 from ⟨by omega, by omega⟩)  N _ _ (show (0 : Int) ≤ ((0 : Int32)).toInt ∧ ((0 : Int32)).toInt ≤ 11 from ⟨by omega, by omega⟩) (show 12 - ((0 : Int32)).toInt ≤ (N : Int) from by omega)
theorem t_Mo_heard (N : Nat) (hN : 50000000 ≤ N) (s0 : zSt) (v1 : Int32) (v2 : Int32) (h_s0 : I_Mo s0) (h_v1 : (0 : Int) ≤ (v1).toInt ∧ (v1).toInt ≤ 3) (h_v2 : (0 : Int) ≤ (v2).toInt ∧ (v2).toInt ≤ 11) : zok (Mo_heard N s0 v1 v2) (fun z => True) :=
  t_Mo_heard_b0 N hN s0 v1 v2  h_s0 h_v1 h_v2 
theorem t_Mo_isTone_b0 (N : Nat) (hN : 50000000 ≤ N) (v0 : Int32) : zok (Mo_isTone_b0 N v0) (fun z => ((0 : Int) ≤ (z).toInt ∧ (z).toInt ≤ 1)) := by
  rw [Mo_isTone_b0]
  have q1 := li_0
  have q2 := li_11
  rcases u_Mo_isIn N v0 (0 : Int32) (11 : Int32)  with w3 | ⟨w3, w3_0, w3_1⟩ <;> rw [w3, zbs]
  · refine zok_cb (by decide) ?_
    exact zok_some (show (0 : Int) ≤ ((0 : Int32)).toInt ∧ ((0 : Int32)).toInt ≤ 1 from ⟨by omega, by omega⟩)
  · have q4 := tr v0
    have q5 : ((0 : Int32)).toInt ≤ (v0).toInt := w3_0
    have q6 : (v0).toInt ≤ ((11 : Int32)).toInt := w3_1
    refine zok_cb (by decide) ?_
    have q7 := li_1
    exact zok_some (show (0 : Int) ≤ ((1 : Int32)).toInt ∧ ((1 : Int32)).toInt ≤ 1 from ⟨by omega, by omega⟩)
theorem t_Mo_isTone (N : Nat) (hN : 50000000 ≤ N) (v0 : Int32) : zok (Mo_isTone N v0) (fun z => ((0 : Int) ≤ (z).toInt ∧ (z).toInt ≤ 1)) :=
  t_Mo_isTone_b0 N hN v0   
theorem t_Mo_hear_b0 (N : Nat) (hN : 50000000 ≤ N) (s0 : zSt) (v1 : Int32) (v2 : Int32) (h_s0 : I_Mo s0) : zok (Mo_hear_b0 N s0 v1 v2) (fun z => True) := by
  rw [Mo_hear_b0]
  rcases u_Mo_isEar N s0 v1  with w1 | ⟨w1, w1_0, w1_1⟩ <;> rw [w1, zbs]
  · refine zok_t (by decide) ?_
    exact zok_some trivial
  · have q2 := li_0
    have q3 := tr v1
    have q4 : ((0 : Int32)).toInt ≤ (v1).toInt := w1_0
    have q5 : (0 : Int) ≤ ((zI s0 32)).toInt ∧ ((zI s0 32)).toInt ≤ 4 := (h_s0).1 32
    have q6 := li_1
    have q7 := tsub (zI s0 32) (1 : Int32) (by omega) (by omega)
    have q8 : (v1).toInt ≤ (((zI s0 32) - (1 : Int32))).toInt := w1_1
    refine zok_f (by decide) ?_
    rcases u_Mo_isTone N v2  with w9 | ⟨w9, w9_0, w9_1⟩ <;> rw [w9, zbs]
    · refine zok_t (by decide) ?_
      exact zok_some trivial
    · have q10 := tr v2
      have q11 : ((0 : Int32)).toInt ≤ (v2).toInt := w9_0
      have q12 := li_11
      have q13 : (v2).toInt ≤ ((11 : Int32)).toInt := w9_1
      refine zok_f (by decide) ?_
      refine zok_bind (t_Mo_heard N hN s0 v1 v2 h_s0 (show (0 : Int) ≤ (v1).toInt ∧ (v1).toInt ≤ 3 from ⟨by omega, by omega⟩) (show (0 : Int) ≤ (v2).toInt ∧ (v2).toInt ≤ 11 from ⟨by omega, by omega⟩)) (fun z7 hz7 => ?_)
      have h_z7 := hz7
      exact zok_some trivial
theorem t_Mo_hear (N : Nat) (hN : 50000000 ≤ N) (s0 : zSt) (v1 : Int32) (v2 : Int32) (h_s0 : I_Mo s0) : zok (Mo_hear N s0 v1 v2) (fun z => True) :=
  t_Mo_hear_b0 N hN s0 v1 v2  h_s0 
theorem t_Mo_chord_b37 (N : Nat) (hN : 50000000 ≤ N) (kh14 : Int32 → Int32 → Option (Int32)) (m14 : Int) (s0 : zSt) (v1 : Int32) (v3 : Int32) (t0 : Int32) (t1 : Int32) (hkh14 : ∀ (v2 : Int32) (v3 : Int32), (0 : Int) ≤ (v2).toInt ∧ (v2).toInt ≤ 4095 → (0 : Int) ≤ (v3).toInt ∧ (v3).toInt ≤ 12 → 13 - (v3).toInt ≤ m14 - 1 → zok (kh14 v2 v3) (fun z => ((-1 : Int) ≤ (z).toInt ∧ (z).toInt ≤ 4095))) (h_s0 : I_Mo s0) (h_v1 : (0 : Int) ≤ (v1).toInt ∧ (v1).toInt ≤ 3) (h_v3 : (0 : Int) ≤ (v3).toInt ∧ (v3).toInt ≤ 11) (h_t0 : (0 : Int) ≤ (t0).toInt ∧ (t0).toInt ≤ 4095) (h_t1 : (0 : Int) ≤ (t1).toInt ∧ (t1).toInt ≤ 2048) (hm14 : 13 - (v3).toInt ≤ m14) : zok (Mo_chord_b37 N kh14 s0 v1 v3 t0 t1) (fun z => ((-1 : Int) ≤ (z).toInt ∧ (z).toInt ≤ 4095)) := by
  rw [Mo_chord_b37]
  have q1 := tor t0 t1 12 (by decide) (by omega) (by omega) (by omega) (by omega)
  have q2 := li_1
  have q3 := tadd v3 (1 : Int32) (by omega) (by omega)
  exact hkh14 _ _ (show (0 : Int) ≤ ((t0 ||| t1)).toInt ∧ ((t0 ||| t1)).toInt ≤ 4095 from ⟨by omega, by omega⟩) (show (0 : Int) ≤ ((v3 + (1 : Int32))).toInt ∧ ((v3 + (1 : Int32))).toInt ≤ 12 from ⟨by omega, by omega⟩) (show 13 - ((v3 + (1 : Int32))).toInt ≤ m14 - 1 by omega)
theorem t_Mo_chord_b14 (N : Nat) (hN : 50000000 ≤ N) (kh14 : Int32 → Int32 → Option (Int32)) (m14 : Int) (s0 : zSt) (v1 : Int32) (v2 : Int32) (v3 : Int32) (hkh14 : ∀ (v2 : Int32) (v3 : Int32), (0 : Int) ≤ (v2).toInt ∧ (v2).toInt ≤ 4095 → (0 : Int) ≤ (v3).toInt ∧ (v3).toInt ≤ 12 → 13 - (v3).toInt ≤ m14 - 1 → zok (kh14 v2 v3) (fun z => ((-1 : Int) ≤ (z).toInt ∧ (z).toInt ≤ 4095))) (h_s0 : I_Mo s0) (h_v1 : (0 : Int) ≤ (v1).toInt ∧ (v1).toInt ≤ 3) (h_v2 : (0 : Int) ≤ (v2).toInt ∧ (v2).toInt ≤ 4095) (h_v3 : (0 : Int) ≤ (v3).toInt ∧ (v3).toInt ≤ 12) (hm14 : 13 - (v3).toInt ≤ m14) : zok (Mo_chord_b14 N kh14 s0 v1 v2 v3) (fun z => ((-1 : Int) ≤ (z).toInt ∧ (z).toInt ≤ 4095)) := by
  rw [Mo_chord_b14]
  have q2 := li_12
  refine zok_ite (fun c1 => ?_) (fun c1 => ?_)
  · have q3 : ((12 : Int32)).toInt ≤ (v3).toInt := tle c1
    exact zok_some (show (-1 : Int) ≤ (v2).toInt ∧ (v2).toInt ≤ 4095 from ⟨by omega, by omega⟩)
  · have q4 : ((12 : Int32)).toInt > (v3).toInt := tnle c1
    refine zok_bind (t_Mo_heard N hN s0 v1 v3 h_s0 (show (0 : Int) ≤ (v1).toInt ∧ (v1).toInt ≤ 3 from ⟨by omega, by omega⟩) (show (0 : Int) ≤ (v3).toInt ∧ (v3).toInt ≤ 11 from ⟨by omega, by omega⟩)) (fun z2 hz2 => ?_)
    have h_z2 := hz2
    have q6 := tr z2
    have q7 := li_0
    refine zok_ite (fun c5 => ?_) (fun c5 => ?_)
    · have q8 : (z2).toInt ≤ ((0 : Int32)).toInt := tle c5
      exact t_Mo_chord_b37 N hN kh14 m14 _ _ _ _ _  hkh14 h_s0 (show (0 : Int) ≤ (v1).toInt ∧ (v1).toInt ≤ 3 from ⟨by omega, by omega⟩) (show (0 : Int) ≤ (v3).toInt ∧ (v3).toInt ≤ 11 from ⟨by omega, by omega⟩) (show (0 : Int) ≤ (v2).toInt ∧ (v2).toInt ≤ 4095 from ⟨by omega, by omega⟩) (show (0 : Int) ≤ ((0 : Int32)).toInt ∧ ((0 : Int32)).toInt ≤ 2048 from ⟨by omega, by omega⟩) (show 13 - (v3).toInt ≤ m14 from by omega)
    · have q9 : (z2).toInt > ((0 : Int32)).toInt := tnle c5
      have q10 := tshl v3 11 (by decide) (by omega) (by omega)
      exact t_Mo_chord_b37 N hN kh14 m14 _ _ _ _ _  hkh14 h_s0 (show (0 : Int) ≤ (v1).toInt ∧ (v1).toInt ≤ 3 from ⟨by omega, by omega⟩) (show (0 : Int) ≤ (v3).toInt ∧ (v3).toInt ≤ 11 from ⟨by omega, by omega⟩) (show (0 : Int) ≤ (v2).toInt ∧ (v2).toInt ≤ 4095 from ⟨by omega, by omega⟩) (show (0 : Int) ≤ (((1 : Int32) <<< (v3 &&& (31 : Int32)))).toInt ∧ (((1 : Int32) <<< (v3 &&& (31 : Int32)))).toInt ≤ 2048 from ⟨by omega, by omega⟩) (show 13 - (v3).toInt ≤ m14 from by omega)
theorem t_Mo_chord_h14 (N : Nat) (hN : 50000000 ≤ N) (s0 : zSt) (v1 : Int32) (h_s0 : I_Mo s0) (h_v1 : (0 : Int) ≤ (v1).toInt ∧ (v1).toInt ≤ 3) : ∀ (n : Nat) (v2 : Int32) (v3 : Int32), (0 : Int) ≤ (v2).toInt ∧ (v2).toInt ≤ 4095 → (0 : Int) ≤ (v3).toInt ∧ (v3).toInt ≤ 12 → 13 - (v3).toInt ≤ (n : Int) → zok (Mo_chord_h14 N s0 v1 n v2 v3) (fun z => ((-1 : Int) ≤ (z).toInt ∧ (z).toInt ≤ 4095))
  | 0, v2, v3, h_v2, h_v3, hm => absurd hm (by omega)
  | n + 1, v2, v3, h_v2, h_v3, hm => by
    rw [Mo_chord_h14_s]
    exact t_Mo_chord_b14 N hN (Mo_chord_h14 N s0 v1 n) ((n + 1 : Nat) : Int) s0 v1 v2 v3  (fun v2 v3 h_v2 h_v3 q => t_Mo_chord_h14 N hN  s0 v1   h_s0 h_v1   n v2 v3 h_v2 h_v3 (by omega)) h_s0 h_v1 h_v2 h_v3  hm
theorem t_Mo_chord_b0 (N : Nat) (hN : 50000000 ≤ N) (s0 : zSt) (v1 : Int32) (h_s0 : I_Mo s0) : zok (Mo_chord_b0 N s0 v1) (fun z => ((-1 : Int) ≤ (z).toInt ∧ (z).toInt ≤ 4095)) := by
  rw [Mo_chord_b0]
  rcases u_Mo_isEar N s0 v1  with w1 | ⟨w1, w1_0, w1_1⟩ <;> rw [w1, zbs]
  · refine zok_t (by decide) ?_
    have q9 := li_m1
    exact zok_some (show (-1 : Int) ≤ (((-1) : Int32)).toInt ∧ (((-1) : Int32)).toInt ≤ 4095 from ⟨by omega, by omega⟩)
  · have q2 := li_0
    have q3 := tr v1
    have q4 : ((0 : Int32)).toInt ≤ (v1).toInt := w1_0
    have q5 : (0 : Int) ≤ ((zI s0 32)).toInt ∧ ((zI s0 32)).toInt ≤ 4 := (h_s0).1 32
    have q6 := li_1
    have q7 := tsub (zI s0 32) (1 : Int32) (by omega) (by omega)
    have q8 : (v1).toInt ≤ (((zI s0 32) - (1 : Int32))).toInt := w1_1
    refine zok_f (by decide) ?_
    exact t_Mo_chord_h14 N hN  _ _   h_s0 (show (0 : Int) ≤ (v1).toInt ∧ (v1).toInt ≤ 3 from ⟨by omega, by omega⟩)  N _ _ (show (0 : Int) ≤ ((0 : Int32)).toInt ∧ ((0 : Int32)).toInt ≤ 4095 from ⟨by omega, by omega⟩) (show (0 : Int) ≤ ((0 : Int32)).toInt ∧ ((0 : Int32)).toInt ≤ 12 from ⟨by omega, by omega⟩) (show 13 - ((0 : Int32)).toInt ≤ (N : Int) from by omega)
theorem t_Mo_chord (N : Nat) (hN : 50000000 ≤ N) (s0 : zSt) (v1 : Int32) (h_s0 : I_Mo s0) : zok (Mo_chord N s0 v1) (fun z => ((-1 : Int) ≤ (z).toInt ∧ (z).toInt ≤ 4095)) :=
  t_Mo_chord_b0 N hN s0 v1  h_s0 
theorem t_Mo_comes_b25 (N : Nat) (hN : 50000000 ≤ N) (s0 : zSt) (v1 : Int32) (t0 : Int32) (t1 : Int32) (gs0 : zSt) (h_s0 : I_Mo s0) (h_v1 : (0 : Int) ≤ (v1).toInt ∧ (v1).toInt ≤ 10) (h_t0 : (0 : Int) ≤ (t0).toInt ∧ (t0).toInt ≤ 1) (h_t1 : (0 : Int) ≤ (t1).toInt ∧ (t1).toInt ≤ 1) (g_s0 : Fr [34, 35] [] s0 gs0) : zok (Mo_comes_b25 N s0 v1 t0 t1) (fun z => ((0 : Int) ≤ (z.1).toInt ∧ (z.1).toInt ≤ 1) ∧ I_Mo z.2 ∧ Fr [34, 35] [] z.2 gs0) := by
  rw [Mo_comes_b25]
  refine zok_ite (fun c1 => ?_) (fun c1 => ?_)
  · have q2 : (t0).toInt = (t1).toInt := teq c1
    have q3 := li_0
    exact zok_some ⟨(show (0 : Int) ≤ ((0 : Int32)).toInt ∧ ((0 : Int32)).toInt ≤ 1 from ⟨by omega, by omega⟩), h_s0, g_s0⟩
  · have q4 : (t0).toInt ≠ (t1).toInt := tneq c1
    have q5 := li_1
    exact zok_some ⟨(show (0 : Int) ≤ ((1 : Int32)).toInt ∧ ((1 : Int32)).toInt ≤ 1 from ⟨by omega, by omega⟩), (IS.pI 35 ((zI s0 35) &&& ((zI s0 34) ^^^ ((1 : Int32) <<< (v1 &&& (31 : Int32))))) (IS.pI 34 ((zI s0 34) ^^^ ((1 : Int32) <<< (v1 &&& (31 : Int32)))) h_s0 (tr _)) (tr _)), (Fr.pI (Fr.pI g_s0 rfl) rfl)⟩
theorem t_Mo_comes_b0 (N : Nat) (hN : 50000000 ≤ N) (s0 : zSt) (v1 : Int32) (v2 : Int32) (gs0 : zSt) (h_s0 : I_Mo s0) (h_v2 : (0 : Int) ≤ (v2).toInt ∧ (v2).toInt ≤ 1) (g_s0 : Fr [34, 35] [] s0 gs0) : zok (Mo_comes_b0 N s0 v1 v2) (fun z => ((0 : Int) ≤ (z.1).toInt ∧ (z.1).toInt ≤ 1) ∧ I_Mo z.2 ∧ Fr [34, 35] [] z.2 gs0) := by
  rw [Mo_comes_b0]
  rcases u_Mo_isBell N s0 v1  with w1 | ⟨w1, w1_0, w1_1⟩ <;> rw [w1, zbs]
  · refine zok_t (by decide) ?_
    have q9 := li_0
    exact zok_some ⟨(show (0 : Int) ≤ ((0 : Int32)).toInt ∧ ((0 : Int32)).toInt ≤ 1 from ⟨by omega, by omega⟩), h_s0, g_s0⟩
  · have q2 := li_0
    have q3 := tr v1
    have q4 : ((0 : Int32)).toInt ≤ (v1).toInt := w1_0
    have q5 : (0 : Int) ≤ ((zI s0 29)).toInt ∧ ((zI s0 29)).toInt ≤ 11 := (h_s0).1 29
    have q6 := li_1
    have q7 := tsub (zI s0 29) (1 : Int32) (by omega) (by omega)
    have q8 : (v1).toInt ≤ (((zI s0 29) - (1 : Int32))).toInt := w1_1
    refine zok_f (by decide) ?_
    refine zok_ite (fun c10 => ?_) (fun c10 => ?_)
    · have q11 : (v2).toInt = ((0 : Int32)).toInt := teq c10
      have q12 := tandr ((zI s0 34) >>> (v1 &&& (31 : Int32))) (1 : Int32) (by omega)
      exact t_Mo_comes_b25 N hN  _ _ _ _ gs0  h_s0 (show (0 : Int) ≤ (v1).toInt ∧ (v1).toInt ≤ 10 from ⟨by omega, by omega⟩) (show (0 : Int) ≤ ((((zI s0 34) >>> (v1 &&& (31 : Int32))) &&& (1 : Int32))).toInt ∧ ((((zI s0 34) >>> (v1 &&& (31 : Int32))) &&& (1 : Int32))).toInt ≤ 1 from ⟨by omega, by omega⟩) (show (0 : Int) ≤ ((0 : Int32)).toInt ∧ ((0 : Int32)).toInt ≤ 1 from ⟨by omega, by omega⟩) g_s0 
    · have q13 : (v2).toInt ≠ ((0 : Int32)).toInt := tneq c10
      have q14 := tandr ((zI s0 34) >>> (v1 &&& (31 : Int32))) (1 : Int32) (by omega)
      exact t_Mo_comes_b25 N hN  _ _ _ _ gs0  h_s0 (show (0 : Int) ≤ (v1).toInt ∧ (v1).toInt ≤ 10 from ⟨by omega, by omega⟩) (show (0 : Int) ≤ ((((zI s0 34) >>> (v1 &&& (31 : Int32))) &&& (1 : Int32))).toInt ∧ ((((zI s0 34) >>> (v1 &&& (31 : Int32))) &&& (1 : Int32))).toInt ≤ 1 from ⟨by omega, by omega⟩) (show (0 : Int) ≤ ((1 : Int32)).toInt ∧ ((1 : Int32)).toInt ≤ 1 from ⟨by omega, by omega⟩) g_s0 
theorem t_Mo_comes (N : Nat) (hN : 50000000 ≤ N) (s0 : zSt) (v1 : Int32) (v2 : Int32) (h_s0 : I_Mo s0) (h_v2 : (0 : Int) ≤ (v2).toInt ∧ (v2).toInt ≤ 1) : zok (Mo_comes N s0 v1 v2) (fun z => ((0 : Int) ≤ (z.1).toInt ∧ (z.1).toInt ≤ 1) ∧ I_Mo z.2 ∧ Fr [34, 35] [] z.2 s0) :=
  t_Mo_comes_b0 N hN s0 v1 v2 s0 h_s0 h_v2 ⟨fun _ _ => rfl, fun _ _ => rfl⟩
theorem t_Mo_stand_b36 (N : Nat) (hN : 50000000 ≤ N) (s0 : zSt) (v1 : Int32) (t0 : Int32) (t1 : Int32) (gs0 : zSt) (h_s0 : I_Mo s0) (h_v1 : (0 : Int) ≤ (v1).toInt ∧ (v1).toInt ≤ 10) (h_t0 : (0 : Int) ≤ (t0).toInt ∧ (t0).toInt ≤ 1) (h_t1 : (0 : Int) ≤ (t1).toInt ∧ (t1).toInt ≤ 1) (g_s0 : Fr [35] [] s0 gs0) : zok (Mo_stand_b36 N s0 v1 t0 t1) (fun z => ((0 : Int) ≤ (z.1).toInt ∧ (z.1).toInt ≤ 1) ∧ I_Mo z.2 ∧ Fr [35] [] z.2 gs0) := by
  rw [Mo_stand_b36]
  refine zok_ite (fun c1 => ?_) (fun c1 => ?_)
  · have q2 : (t0).toInt = (t1).toInt := teq c1
    have q3 := li_0
    exact zok_some ⟨(show (0 : Int) ≤ ((0 : Int32)).toInt ∧ ((0 : Int32)).toInt ≤ 1 from ⟨by omega, by omega⟩), h_s0, g_s0⟩
  · have q4 : (t0).toInt ≠ (t1).toInt := tneq c1
    have q5 := li_1
    exact zok_some ⟨(show (0 : Int) ≤ ((1 : Int32)).toInt ∧ ((1 : Int32)).toInt ≤ 1 from ⟨by omega, by omega⟩), (IS.pI 35 ((zI s0 35) ^^^ ((1 : Int32) <<< (v1 &&& (31 : Int32)))) h_s0 (tr _)), (Fr.pI g_s0 rfl)⟩
theorem t_Mo_stand_b0 (N : Nat) (hN : 50000000 ≤ N) (s0 : zSt) (v1 : Int32) (v2 : Int32) (gs0 : zSt) (h_s0 : I_Mo s0) (h_v2 : (0 : Int) ≤ (v2).toInt ∧ (v2).toInt ≤ 1) (g_s0 : Fr [35] [] s0 gs0) : zok (Mo_stand_b0 N s0 v1 v2) (fun z => ((0 : Int) ≤ (z.1).toInt ∧ (z.1).toInt ≤ 1) ∧ I_Mo z.2 ∧ Fr [35] [] z.2 gs0) := by
  rw [Mo_stand_b0]
  rcases u_Mo_isBell N s0 v1  with w1 | ⟨w1, w1_0, w1_1⟩ <;> rw [w1, zbs]
  · refine zok_t (by decide) ?_
    have q9 := li_0
    exact zok_some ⟨(show (0 : Int) ≤ ((0 : Int32)).toInt ∧ ((0 : Int32)).toInt ≤ 1 from ⟨by omega, by omega⟩), h_s0, g_s0⟩
  · have q2 := li_0
    have q3 := tr v1
    have q4 : ((0 : Int32)).toInt ≤ (v1).toInt := w1_0
    have q5 : (0 : Int) ≤ ((zI s0 29)).toInt ∧ ((zI s0 29)).toInt ≤ 11 := (h_s0).1 29
    have q6 := li_1
    have q7 := tsub (zI s0 29) (1 : Int32) (by omega) (by omega)
    have q8 : (v1).toInt ≤ (((zI s0 29) - (1 : Int32))).toInt := w1_1
    refine zok_f (by decide) ?_
    refine zok_ite (fun c10 => ?_) (fun c10 => ?_)
    · exact zok_some ⟨(show (0 : Int) ≤ ((0 : Int32)).toInt ∧ ((0 : Int32)).toInt ≤ 1 from ⟨by omega, by omega⟩), h_s0, g_s0⟩
    · refine zok_ite (fun c11 => ?_) (fun c11 => ?_)
      · have q12 : (v2).toInt = ((0 : Int32)).toInt := teq c11
        have q13 := tandr ((zI s0 35) >>> (v1 &&& (31 : Int32))) (1 : Int32) (by omega)
        exact t_Mo_stand_b36 N hN  _ _ _ _ gs0  h_s0 (show (0 : Int) ≤ (v1).toInt ∧ (v1).toInt ≤ 10 from ⟨by omega, by omega⟩) (show (0 : Int) ≤ ((((zI s0 35) >>> (v1 &&& (31 : Int32))) &&& (1 : Int32))).toInt ∧ ((((zI s0 35) >>> (v1 &&& (31 : Int32))) &&& (1 : Int32))).toInt ≤ 1 from ⟨by omega, by omega⟩) (show (0 : Int) ≤ ((0 : Int32)).toInt ∧ ((0 : Int32)).toInt ≤ 1 from ⟨by omega, by omega⟩) g_s0 
      · have q14 : (v2).toInt ≠ ((0 : Int32)).toInt := tneq c11
        have q15 := tandr ((zI s0 35) >>> (v1 &&& (31 : Int32))) (1 : Int32) (by omega)
        exact t_Mo_stand_b36 N hN  _ _ _ _ gs0  h_s0 (show (0 : Int) ≤ (v1).toInt ∧ (v1).toInt ≤ 10 from ⟨by omega, by omega⟩) (show (0 : Int) ≤ ((((zI s0 35) >>> (v1 &&& (31 : Int32))) &&& (1 : Int32))).toInt ∧ ((((zI s0 35) >>> (v1 &&& (31 : Int32))) &&& (1 : Int32))).toInt ≤ 1 from ⟨by omega, by omega⟩) (show (0 : Int) ≤ ((1 : Int32)).toInt ∧ ((1 : Int32)).toInt ≤ 1 from ⟨by omega, by omega⟩) g_s0 
theorem t_Mo_stand (N : Nat) (hN : 50000000 ≤ N) (s0 : zSt) (v1 : Int32) (v2 : Int32) (h_s0 : I_Mo s0) (h_v2 : (0 : Int) ≤ (v2).toInt ∧ (v2).toInt ≤ 1) : zok (Mo_stand N s0 v1 v2) (fun z => ((0 : Int) ≤ (z.1).toInt ∧ (z.1).toInt ≤ 1) ∧ I_Mo z.2 ∧ Fr [35] [] z.2 s0) :=
  t_Mo_stand_b0 N hN s0 v1 v2 s0 h_s0 h_v2 ⟨fun _ _ => rfl, fun _ _ => rfl⟩
theorem t_Mo_isPlace_b0 (N : Nat) (hN : 50000000 ≤ N) (v0 : Int32) : zok (Mo_isPlace_b0 N v0) (fun z => ((0 : Int) ≤ (z).toInt ∧ (z).toInt ≤ 1)) := by
  rw [Mo_isPlace_b0]
  have q1 := li_0
  have q2 := li_99
  rcases u_Mo_isIn N v0 (0 : Int32) (99 : Int32)  with w3 | ⟨w3, w3_0, w3_1⟩ <;> rw [w3, zbs]
  · refine zok_cb (by decide) ?_
    exact zok_some (show (0 : Int) ≤ ((0 : Int32)).toInt ∧ ((0 : Int32)).toInt ≤ 1 from ⟨by omega, by omega⟩)
  · have q4 := tr v0
    have q5 : ((0 : Int32)).toInt ≤ (v0).toInt := w3_0
    have q6 : (v0).toInt ≤ ((99 : Int32)).toInt := w3_1
    refine zok_cb (by decide) ?_
    have q7 := li_1
    exact zok_some (show (0 : Int) ≤ ((1 : Int32)).toInt ∧ ((1 : Int32)).toInt ≤ 1 from ⟨by omega, by omega⟩)
theorem t_Mo_isPlace (N : Nat) (hN : 50000000 ≤ N) (v0 : Int32) : zok (Mo_isPlace N v0) (fun z => ((0 : Int) ≤ (z).toInt ∧ (z).toInt ≤ 1)) :=
  t_Mo_isPlace_b0 N hN v0   
theorem t_Mo_isWind_b0 (N : Nat) (hN : 50000000 ≤ N) (v0 : Int32) : zok (Mo_isWind_b0 N v0) (fun z => ((0 : Int) ≤ (z).toInt ∧ (z).toInt ≤ 1)) := by
  rw [Mo_isWind_b0]
  have q1 := li_0
  have q2 := li_20
  rcases u_Mo_isIn N v0 (0 : Int32) (20 : Int32)  with w3 | ⟨w3, w3_0, w3_1⟩ <;> rw [w3, zbs]
  · refine zok_cb (by decide) ?_
    exact zok_some (show (0 : Int) ≤ ((0 : Int32)).toInt ∧ ((0 : Int32)).toInt ≤ 1 from ⟨by omega, by omega⟩)
  · have q4 := tr v0
    have q5 : ((0 : Int32)).toInt ≤ (v0).toInt := w3_0
    have q6 : (v0).toInt ≤ ((20 : Int32)).toInt := w3_1
    refine zok_cb (by decide) ?_
    have q7 := li_1
    exact zok_some (show (0 : Int) ≤ ((1 : Int32)).toInt ∧ ((1 : Int32)).toInt ≤ 1 from ⟨by omega, by omega⟩)
theorem t_Mo_isWind (N : Nat) (hN : 50000000 ≤ N) (v0 : Int32) : zok (Mo_isWind N v0) (fun z => ((0 : Int) ≤ (z).toInt ∧ (z).toInt ≤ 1)) :=
  t_Mo_isWind_b0 N hN v0   
theorem t_Mo_walk_b0 (N : Nat) (hN : 50000000 ≤ N) (s0 : zSt) (v1 : Int32) (v2 : Int32) (gs0 : zSt) (h_s0 : I_Mo s0) (g_s0 : Fr [36, 37] [] s0 gs0) : zok (Mo_walk_b0 N s0 v1 v2) (fun z => True ∧ I_Mo z.2 ∧ Fr [36, 37] [] z.2 gs0) := by
  rw [Mo_walk_b0]
  rcases u_Mo_isPlace N v1  with w1 | ⟨w1, w1_0, w1_1⟩ <;> rw [w1, zbs]
  · refine zok_t (by decide) ?_
    exact zok_some ⟨trivial, h_s0, g_s0⟩
  · have q2 := li_0
    have q3 := tr v1
    have q4 : ((0 : Int32)).toInt ≤ (v1).toInt := w1_0
    have q5 := li_99
    have q6 : (v1).toInt ≤ ((99 : Int32)).toInt := w1_1
    refine zok_f (by decide) ?_
    rcases u_Mo_isWind N v2  with w7 | ⟨w7, w7_0, w7_1⟩ <;> rw [w7, zbs]
    · refine zok_t (by decide) ?_
      exact zok_some ⟨trivial, h_s0, g_s0⟩
    · have q8 := tr v2
      have q9 : ((0 : Int32)).toInt ≤ (v2).toInt := w7_0
      have q10 := li_20
      have q11 : (v2).toInt ≤ ((20 : Int32)).toInt := w7_1
      refine zok_f (by decide) ?_
      exact zok_some ⟨trivial, (IS.pI 37 v2 (IS.pI 36 v1 h_s0 (tr _)) (tr _)), (Fr.pI (Fr.pI g_s0 rfl) rfl)⟩
theorem t_Mo_walk (N : Nat) (hN : 50000000 ≤ N) (s0 : zSt) (v1 : Int32) (v2 : Int32) (h_s0 : I_Mo s0) : zok (Mo_walk N s0 v1 v2) (fun z => True ∧ I_Mo z.2 ∧ Fr [36, 37] [] z.2 s0) :=
  t_Mo_walk_b0 N hN s0 v1 v2 s0 h_s0 ⟨fun _ _ => rfl, fun _ _ => rfl⟩
theorem t_Mo_crack_b0 (N : Nat) (hN : 50000000 ≤ N) (s0 : zSt) (v1 : Int32) (v2 : Int32) (gs0 : zSt) (h_s0 : I_Mo s0) (g_s0 : Fr [] [33] s0 gs0) : zok (Mo_crack_b0 N s0 v1 v2) (fun z => True ∧ I_Mo z.2 ∧ Fr [] [33] z.2 gs0) := by
  rw [Mo_crack_b0]
  rcases u_Mo_isBell N s0 v1  with w1 | ⟨w1, w1_0, w1_1⟩ <;> rw [w1, zbs]
  · refine zok_t (by decide) ?_
    exact zok_some ⟨trivial, h_s0, g_s0⟩
  · have q2 := li_0
    have q3 := tr v1
    have q4 : ((0 : Int32)).toInt ≤ (v1).toInt := w1_0
    have q5 : (0 : Int) ≤ ((zI s0 29)).toInt ∧ ((zI s0 29)).toInt ≤ 11 := (h_s0).1 29
    have q6 := li_1
    have q7 := tsub (zI s0 29) (1 : Int32) (by omega) (by omega)
    have q8 : (v1).toInt ≤ (((zI s0 29) - (1 : Int32))).toInt := w1_1
    refine zok_f (by decide) ?_
    have q9 := li_2
    rcases u_Mo_isIn N v2 (0 : Int32) (2 : Int32)  with w10 | ⟨w10, w10_0, w10_1⟩ <;> rw [w10, zbs]
    · refine zok_t (by decide) ?_
      exact zok_some ⟨trivial, h_s0, g_s0⟩
    · have q11 := tr v2
      have q12 : ((0 : Int32)).toInt ≤ (v2).toInt := w10_0
      have q13 : (v2).toInt ≤ ((2 : Int32)).toInt := w10_1
      refine zok_f (by decide) ?_
      refine zok_ck (show vp_in v1 11 from vin (by omega) (by omega)) ?_
      refine zok_ck (show vp_in v1 11 from vin (by omega) (by omega)) ?_
      exact zok_some ⟨trivial, (IS.sA 33 (upd (zA s0 33) (Int32.toNatClampNeg v1) v2) h_s0 (fun _ => tr _)), (Fr.sA g_s0 rfl)⟩
theorem t_Mo_crack (N : Nat) (hN : 50000000 ≤ N) (s0 : zSt) (v1 : Int32) (v2 : Int32) (h_s0 : I_Mo s0) : zok (Mo_crack N s0 v1 v2) (fun z => True ∧ I_Mo z.2 ∧ Fr [] [33] z.2 s0) :=
  t_Mo_crack_b0 N hN s0 v1 v2 s0 h_s0 ⟨fun _ _ => rfl, fun _ _ => rfl⟩
theorem t_Mo_years_b0 (N : Nat) (hN : 50000000 ≤ N) (s0 : zSt) (v1 : Int32) (gs0 : zSt) (h_s0 : I_Mo s0) (g_s0 : Fr [38] [] s0 gs0) : zok (Mo_years_b0 N s0 v1) (fun z => ((-2147483648 : Int) ≤ (z.1).toInt ∧ (z.1).toInt ≤ 200) ∧ I_Mo z.2 ∧ Fr [38] [] z.2 gs0) := by
  rw [Mo_years_b0]
  have q1 := li_0
  have q2 := li_20
  rcases u_Mo_isIn N v1 (0 : Int32) (20 : Int32)  with w3 | ⟨w3, w3_0, w3_1⟩ <;> rw [w3, zbs]
  · refine zok_t (by decide) ?_
    have q7 := li_m1
    exact zok_some ⟨(show (-2147483648 : Int) ≤ (((-1) : Int32)).toInt ∧ (((-1) : Int32)).toInt ≤ 200 from ⟨by omega, by omega⟩), h_s0, g_s0⟩
  · have q4 := tr v1
    have q5 : ((0 : Int32)).toInt ≤ (v1).toInt := w3_0
    have q6 : (v1).toInt ≤ ((20 : Int32)).toInt := w3_1
    refine zok_f (by decide) ?_
    have q9 := tr ((zI s0 38) + v1)
    have q10 := li_200
    refine zok_ite (fun c8 => ?_) (fun c8 => ?_)
    · have q11 : (((zI s0 38) + v1)).toInt ≤ ((200 : Int32)).toInt := tle c8
      exact zok_some ⟨(show (-2147483648 : Int) ≤ (((zI s0 38) + v1)).toInt ∧ (((zI s0 38) + v1)).toInt ≤ 200 from ⟨by omega, by omega⟩), (IS.pI 38 ((zI s0 38) + v1) h_s0 (tr _)), (Fr.pI g_s0 rfl)⟩
    · have q12 : (((zI s0 38) + v1)).toInt > ((200 : Int32)).toInt := tnle c8
      have q13 := li_m1
      exact zok_some ⟨(show (-2147483648 : Int) ≤ (((-1) : Int32)).toInt ∧ (((-1) : Int32)).toInt ≤ 200 from ⟨by omega, by omega⟩), h_s0, g_s0⟩
theorem t_Mo_years (N : Nat) (hN : 50000000 ≤ N) (s0 : zSt) (v1 : Int32) (h_s0 : I_Mo s0) : zok (Mo_years N s0 v1) (fun z => ((-2147483648 : Int) ≤ (z.1).toInt ∧ (z.1).toInt ≤ 200) ∧ I_Mo z.2 ∧ Fr [38] [] z.2 s0) :=
  t_Mo_years_b0 N hN s0 v1 s0 h_s0 ⟨fun _ _ => rfl, fun _ _ => rfl⟩
theorem t_Mo_isQuarter_b0 (N : Nat) (hN : 50000000 ≤ N) (v0 : Int32) : zok (Mo_isQuarter_b0 N v0) (fun z => ((0 : Int) ≤ (z).toInt ∧ (z).toInt ≤ 1)) := by
  rw [Mo_isQuarter_b0]
  have q1 := li_0
  have q2 := li_95
  rcases u_Mo_isIn N v0 (0 : Int32) (95 : Int32)  with w3 | ⟨w3, w3_0, w3_1⟩ <;> rw [w3, zbs]
  · refine zok_cb (by decide) ?_
    exact zok_some (show (0 : Int) ≤ ((0 : Int32)).toInt ∧ ((0 : Int32)).toInt ≤ 1 from ⟨by omega, by omega⟩)
  · have q4 := tr v0
    have q5 : ((0 : Int32)).toInt ≤ (v0).toInt := w3_0
    have q6 : (v0).toInt ≤ ((95 : Int32)).toInt := w3_1
    refine zok_cb (by decide) ?_
    have q7 := li_1
    exact zok_some (show (0 : Int) ≤ ((1 : Int32)).toInt ∧ ((1 : Int32)).toInt ≤ 1 from ⟨by omega, by omega⟩)
theorem t_Mo_isQuarter (N : Nat) (hN : 50000000 ≤ N) (v0 : Int32) : zok (Mo_isQuarter N v0) (fun z => ((0 : Int) ≤ (z).toInt ∧ (z).toInt ≤ 1)) :=
  t_Mo_isQuarter_b0 N hN v0   
theorem t_Mo_entry_b107 (N : Nat) (hN : 50000000 ≤ N) (s0 : zSt) (gs0 : zSt) (h_s0 : I_Mo s0) (h_s0_47 : (1 : Int) ≤ (zI s0 47).toInt ∧ (zI s0 47).toInt ≤ 40) (g_s0 : Fr [47] [39, 40, 41, 42, 43, 44, 45, 46] s0 gs0) : zok (Mo_entry_b107 N s0) (fun z => ((-1 : Int) ≤ (z.1).toInt ∧ (z.1).toInt ≤ 39) ∧ I_Mo z.2 ∧ Fr [47] [39, 40, 41, 42, 43, 44, 45, 46] z.2 gs0) := by
  rw [Mo_entry_b107]
  have q1 : (0 : Int) ≤ ((zI s0 47)).toInt ∧ ((zI s0 47)).toInt ≤ 40 := (h_s0).1 47
  have q2 := li_1
  have q3 := tsub (zI s0 47) (1 : Int32) (by omega) (by omega)
  exact zok_some ⟨(show (-1 : Int) ≤ (((zI s0 47) - (1 : Int32))).toInt ∧ (((zI s0 47) - (1 : Int32))).toInt ≤ 39 from ⟨by omega, by omega⟩), h_s0, g_s0⟩
theorem t_Mo_entry_b97 (N : Nat) (hN : 50000000 ≤ N) (s0 : zSt) (gs0 : zSt) (h_s0 : I_Mo s0) (h_s0_47 : (0 : Int) ≤ (zI s0 47).toInt ∧ (zI s0 47).toInt ≤ 39) (g_s0 : Fr [47] [39, 40, 41, 42, 43, 44, 45, 46] s0 gs0) : zok (Mo_entry_b97 N s0) (fun z => ((-1 : Int) ≤ (z.1).toInt ∧ (z.1).toInt ≤ 39) ∧ I_Mo z.2 ∧ Fr [47] [39, 40, 41, 42, 43, 44, 45, 46] z.2 gs0) := by
  rw [Mo_entry_b97]
  have q1 : (0 : Int) ≤ ((zI s0 47)).toInt ∧ ((zI s0 47)).toInt ≤ 40 := (h_s0).1 47
  have q2 := li_1
  have q3 := tadd (zI s0 47) (1 : Int32) (by omega) (by omega)
  exact t_Mo_entry_b107 N hN  _ gs0  (IS.pI 47 ((zI s0 47) + (1 : Int32)) h_s0 (show (0 : Int) ≤ (((zI s0 47) + (1 : Int32))).toInt ∧ (((zI s0 47) + (1 : Int32))).toInt ≤ 40 from ⟨by omega, by omega⟩)) (show (1 : Int) ≤ (((zI s0 47) + (1 : Int32))).toInt ∧ (((zI s0 47) + (1 : Int32))).toInt ≤ 40 from ⟨by omega, by omega⟩) (Fr.pI g_s0 rfl) 
theorem t_Mo_entry_b87 (N : Nat) (hN : 50000000 ≤ N) (s0 : zSt) (gs0 : zSt) (h_s0 : I_Mo s0) (h_s0_47 : (0 : Int) ≤ (zI s0 47).toInt ∧ (zI s0 47).toInt ≤ 39) (g_s0 : Fr [47] [39, 40, 41, 42, 43, 44, 45, 46] s0 gs0) : zok (Mo_entry_b87 N s0) (fun z => ((-1 : Int) ≤ (z.1).toInt ∧ (z.1).toInt ≤ 39) ∧ I_Mo z.2 ∧ Fr [47] [39, 40, 41, 42, 43, 44, 45, 46] z.2 gs0) := by
  rw [Mo_entry_b87]
  have q1 : (0 : Int) ≤ ((zI s0 47)).toInt ∧ ((zI s0 47)).toInt ≤ 40 := (h_s0).1 47
  refine zok_ck (show vp_in (zI s0 47) 40 from vin (by omega) (by omega)) ?_
  exact t_Mo_entry_b97 N hN  _ gs0  (IS.sA 46 (upd (zA s0 46) (Int32.toNatClampNeg (zI s0 47)) ((-1) : Int32)) h_s0 (fun _ => tr _)) (show (0 : Int) ≤ ((zI s0 47)).toInt ∧ ((zI s0 47)).toInt ≤ 39 from ⟨by omega, by omega⟩) (Fr.sA g_s0 rfl) 
theorem t_Mo_entry_b0 (N : Nat) (hN : 50000000 ≤ N) (s0 : zSt) (v1 : Int32) (v2 : Int32) (v3 : Int32) (v4 : Int32) (v5 : Int32) (v6 : Int32) (gs0 : zSt) (h_s0 : I_Mo s0) (h_v1 : (0 : Int) ≤ (v1).toInt ∧ (v1).toInt ≤ 1) (h_v2 : (0 : Int) ≤ (v2).toInt ∧ (v2).toInt ≤ 95) (h_v3 : (0 : Int) ≤ (v3).toInt ∧ (v3).toInt ≤ 3) (h_v4 : (0 : Int) ≤ (v4).toInt ∧ (v4).toInt ≤ 4095) (h_v5 : (-99 : Int) ≤ (v5).toInt ∧ (v5).toInt ≤ 2147483647) (g_s0 : Fr [47] [39, 40, 41, 42, 43, 44, 45, 46] s0 gs0) : zok (Mo_entry_b0 N s0 v1 v2 v3 v4 v5 v6) (fun z => ((-1 : Int) ≤ (z.1).toInt ∧ (z.1).toInt ≤ 39) ∧ I_Mo z.2 ∧ Fr [47] [39, 40, 41, 42, 43, 44, 45, 46] z.2 gs0) := by
  rw [Mo_entry_b0]
  have q2 : (0 : Int) ≤ ((zI s0 47)).toInt ∧ ((zI s0 47)).toInt ≤ 40 := (h_s0).1 47
  have q3 := li_40
  refine zok_ite (fun c1 => ?_) (fun c1 => ?_)
  · have q4 : ((zI s0 47)).toInt = ((40 : Int32)).toInt := teq c1
    have q5 := li_m1
    exact zok_some ⟨(show (-1 : Int) ≤ (((-1) : Int32)).toInt ∧ (((-1) : Int32)).toInt ≤ 39 from ⟨by omega, by omega⟩), h_s0, g_s0⟩
  · have q6 : ((zI s0 47)).toInt ≠ ((40 : Int32)).toInt := tneq c1
    refine zok_ck (show vp_in (zI s0 47) 40 from vin (by omega) (by omega)) ?_
    refine zok_ck (show vp_in (zI s0 47) 40 from vin (by omega) (by omega)) ?_
    refine zok_ck (show vp_in (zI s0 47) 40 from vin (by omega) (by omega)) ?_
    refine zok_ck (show vp_in (zI s0 47) 40 from vin (by omega) (by omega)) ?_
    refine zok_ck (show vp_in (zI s0 47) 40 from vin (by omega) (by omega)) ?_
    refine zok_ck (show vp_in (zI s0 47) 40 from vin (by omega) (by omega)) ?_
    refine zok_ck (show vp_in (zI s0 47) 40 from vin (by omega) (by omega)) ?_
    exact t_Mo_entry_b87 N hN  _ gs0  (IS.sA 45 (upd (zA s0 45) (Int32.toNatClampNeg (zI s0 47)) (zI s0 48)) (IS.sA 44 (upd (zA s0 44) (Int32.toNatClampNeg (zI s0 47)) v6) (IS.sA 43 (upd (zA s0 43) (Int32.toNatClampNeg (zI s0 47)) v5) (IS.sA 42 (upd (zA s0 42) (Int32.toNatClampNeg (zI s0 47)) v4) (IS.sA 41 (upd (zA s0 41) (Int32.toNatClampNeg (zI s0 47)) v3) (IS.sA 40 (upd (zA s0 40) (Int32.toNatClampNeg (zI s0 47)) v2) (IS.sA 39 (upd (zA s0 39) (Int32.toNatClampNeg (zI s0 47)) v1) h_s0 (fun _ => tr _)) (fun _ => tr _)) (show ∀ i, (0 : Int) ≤ ((upd (zA s0 41) (Int32.toNatClampNeg (zI s0 47)) v3) i).toInt ∧ ((upd (zA s0 41) (Int32.toNatClampNeg (zI s0 47)) v3) i).toInt ≤ 3 from (rgu (fun i => rgm ((h_s0).2 41 i) (by decide) (by decide)) ⟨by omega, by omega⟩))) (fun _ => tr _)) (fun _ => tr _)) (fun _ => tr _)) (fun _ => tr _)) (show (0 : Int) ≤ ((zI s0 47)).toInt ∧ ((zI s0 47)).toInt ≤ 39 from ⟨by omega, by omega⟩) (Fr.sA (Fr.sA (Fr.sA (Fr.sA (Fr.sA (Fr.sA (Fr.sA g_s0 rfl) rfl) rfl) rfl) rfl) rfl) rfl) 
theorem t_Mo_entry (N : Nat) (hN : 50000000 ≤ N) (s0 : zSt) (v1 : Int32) (v2 : Int32) (v3 : Int32) (v4 : Int32) (v5 : Int32) (v6 : Int32) (h_s0 : I_Mo s0) (h_v1 : (0 : Int) ≤ (v1).toInt ∧ (v1).toInt ≤ 1) (h_v2 : (0 : Int) ≤ (v2).toInt ∧ (v2).toInt ≤ 95) (h_v3 : (0 : Int) ≤ (v3).toInt ∧ (v3).toInt ≤ 3) (h_v4 : (0 : Int) ≤ (v4).toInt ∧ (v4).toInt ≤ 4095) (h_v5 : (-99 : Int) ≤ (v5).toInt ∧ (v5).toInt ≤ 2147483647) : zok (Mo_entry N s0 v1 v2 v3 v4 v5 v6) (fun z => ((-1 : Int) ≤ (z.1).toInt ∧ (z.1).toInt ≤ 39) ∧ I_Mo z.2 ∧ Fr [47] [39, 40, 41, 42, 43, 44, 45, 46] z.2 s0) :=
  t_Mo_entry_b0 N hN s0 v1 v2 v3 v4 v5 v6 s0 h_s0 h_v1 h_v2 h_v3 h_v4 h_v5 ⟨fun _ _ => rfl, fun _ _ => rfl⟩
theorem t_Mo_sound_b0 (N : Nat) (hN : 50000000 ≤ N) (s0 : zSt) (v1 : Int32) (v2 : Int32) (v3 : Int32) (v4 : Int32) (v5 : Int32) (gs0 : zSt) (h_s0 : I_Mo s0) (g_s0 : Fr [47] [39, 40, 41, 42, 43, 44, 45, 46] s0 gs0) : zok (Mo_sound_b0 N s0 v1 v2 v3 v4 v5) (fun z => ((-1 : Int) ≤ (z.1).toInt ∧ (z.1).toInt ≤ 39) ∧ I_Mo z.2 ∧ Fr [47] [39, 40, 41, 42, 43, 44, 45, 46] z.2 gs0) := by
  rw [Mo_sound_b0]
  rcases u_Mo_isQuarter N v1  with w1 | ⟨w1, w1_0, w1_1⟩ <;> rw [w1, zbs]
  · refine zok_t (by decide) ?_
    have q7 := li_m1
    exact zok_some ⟨(show (-1 : Int) ≤ (((-1) : Int32)).toInt ∧ (((-1) : Int32)).toInt ≤ 39 from ⟨by omega, by omega⟩), h_s0, g_s0⟩
  · have q2 := li_0
    have q3 := tr v1
    have q4 : ((0 : Int32)).toInt ≤ (v1).toInt := w1_0
    have q5 := li_95
    have q6 : (v1).toInt ≤ ((95 : Int32)).toInt := w1_1
    refine zok_f (by decide) ?_
    rcases u_Mo_isEar N s0 v2  with w8 | ⟨w8, w8_0, w8_1⟩ <;> rw [w8, zbs]
    · refine zok_t (by decide) ?_
      have q15 := li_m1
      exact zok_some ⟨(show (-1 : Int) ≤ (((-1) : Int32)).toInt ∧ (((-1) : Int32)).toInt ≤ 39 from ⟨by omega, by omega⟩), h_s0, g_s0⟩
    · have q9 := tr v2
      have q10 : ((0 : Int32)).toInt ≤ (v2).toInt := w8_0
      have q11 : (0 : Int) ≤ ((zI s0 32)).toInt ∧ ((zI s0 32)).toInt ≤ 4 := (h_s0).1 32
      have q12 := li_1
      have q13 := tsub (zI s0 32) (1 : Int32) (by omega) (by omega)
      have q14 : (v2).toInt ≤ (((zI s0 32) - (1 : Int32))).toInt := w8_1
      refine zok_f (by decide) ?_
      rcases u_Mo_isTone N v3  with w16 | ⟨w16, w16_0, w16_1⟩ <;> rw [w16, zbs]
      · refine zok_t (by decide) ?_
        have q21 := li_m1
        exact zok_some ⟨(show (-1 : Int) ≤ (((-1) : Int32)).toInt ∧ (((-1) : Int32)).toInt ≤ 39 from ⟨by omega, by omega⟩), h_s0, g_s0⟩
      · have q17 := tr v3
        have q18 : ((0 : Int32)).toInt ≤ (v3).toInt := w16_0
        have q19 := li_11
        have q20 : (v3).toInt ≤ ((11 : Int32)).toInt := w16_1
        refine zok_f (by decide) ?_
        have q22 := li_999
        rcases u_Mo_isIn N v4 (0 : Int32) (999 : Int32)  with w23 | ⟨w23, w23_0, w23_1⟩ <;> rw [w23, zbs]
        · refine zok_t (by decide) ?_
          have q27 := li_m1
          exact zok_some ⟨(show (-1 : Int) ≤ (((-1) : Int32)).toInt ∧ (((-1) : Int32)).toInt ≤ 39 from ⟨by omega, by omega⟩), h_s0, g_s0⟩
        · have q24 := tr v4
          have q25 : ((0 : Int32)).toInt ≤ (v4).toInt := w23_0
          have q26 : (v4).toInt ≤ ((999 : Int32)).toInt := w23_1
          refine zok_f (by decide) ?_
          rcases u_Mo_isIn N v5 v4 (999 : Int32)  with w28 | ⟨w28, w28_0, w28_1⟩ <;> rw [w28, zbs]
          · refine zok_t (by decide) ?_
            have q32 := li_m1
            exact zok_some ⟨(show (-1 : Int) ≤ (((-1) : Int32)).toInt ∧ (((-1) : Int32)).toInt ≤ 39 from ⟨by omega, by omega⟩), h_s0, g_s0⟩
          · have q29 := tr v5
            have q30 : (v4).toInt ≤ (v5).toInt := w28_0
            have q31 : (v5).toInt ≤ ((999 : Int32)).toInt := w28_1
            refine zok_f (by decide) ?_
            refine zok_bind (t_Mo_entry N hN s0 (0 : Int32) v1 v2 v3 v4 v5 h_s0 (show (0 : Int) ≤ ((0 : Int32)).toInt ∧ ((0 : Int32)).toInt ≤ 1 from ⟨by omega, by omega⟩) (show (0 : Int) ≤ (v1).toInt ∧ (v1).toInt ≤ 95 from ⟨by omega, by omega⟩) (show (0 : Int) ≤ (v2).toInt ∧ (v2).toInt ≤ 3 from ⟨by omega, by omega⟩) (show (0 : Int) ≤ (v3).toInt ∧ (v3).toInt ≤ 4095 from ⟨by omega, by omega⟩) (show (-99 : Int) ≤ (v4).toInt ∧ (v4).toInt ≤ 2147483647 from ⟨by omega, by omega⟩)) (fun z16 hz16 => ?_)
            obtain ⟨h_z16_1, h_z16_2, fr_z16_2⟩ := hz16
            exact zok_some ⟨(show (-1 : Int) ≤ (z16.1).toInt ∧ (z16.1).toInt ≤ 39 from ⟨by omega, by omega⟩), h_z16_2, (Fr.tr fr_z16_2 g_s0 rfl rfl)⟩
