theorem t_Valley_hasEar (N : Nat) (hN : 50000000 ≤ N) (s0 : zSt) (v1 : Int32) (h_s0 : I_Valley s0) : zok (Valley_hasEar N s0 v1) (fun z => ((0 : Int) ≤ (z).toInt ∧ (z).toInt ≤ 1)) :=
  t_Valley_hasEar_b0 N hN s0 v1  h_s0 
theorem t_Valley_hasBeast_b40 (N : Nat) (hN : 50000000 ≤ N) (kh2 : Int32 → Option (Int32)) (m2 : Int) (s0 : zSt) (v1 : Int32) (v2 : Int32) (v3 : Int32) (hkh2 : ∀ (v3 : Int32), (0 : Int) ≤ (v3).toInt ∧ (v3).toInt ≤ 11 → 12 - (v3).toInt ≤ m2 - 1 → zok (kh2 v3) (fun z => ((0 : Int) ≤ (z).toInt ∧ (z).toInt ≤ 1))) (h_s0 : I_Valley s0) (h_s0_3 : (1 : Int) ≤ (zI s0 3).toInt ∧ (zI s0 3).toInt ≤ 11) (h_v1 : (0 : Int) ≤ (v1).toInt ∧ (v1).toInt ≤ 11) (h_v2 : (1 : Int) ≤ (v2).toInt ∧ (v2).toInt ≤ 99) (h_v3 : (0 : Int) ≤ (v3).toInt ∧ (v3).toInt ≤ 10) (hm2 : 12 - (v3).toInt ≤ m2) : zok (Valley_hasBeast_b40 N kh2 s0 v1 v2 v3) (fun z => ((0 : Int) ≤ (z).toInt ∧ (z).toInt ≤ 1)) := by
  rw [Valley_hasBeast_b40]
  have q1 := li_1
  have q2 := tadd v3 (1 : Int32) (by omega) (by omega)
  exact hkh2 _ (show (0 : Int) ≤ ((v3 + (1 : Int32))).toInt ∧ ((v3 + (1 : Int32))).toInt ≤ 11 from ⟨by omega, by omega⟩) (show 12 - ((v3 + (1 : Int32))).toInt ≤ m2 - 1 by omega)
theorem t_Valley_hasBeast_b2 (N : Nat) (hN : 50000000 ≤ N) (kh2 : Int32 → Option (Int32)) (m2 : Int) (s0 : zSt) (v1 : Int32) (v2 : Int32) (v3 : Int32) (hkh2 : ∀ (v3 : Int32), (0 : Int) ≤ (v3).toInt ∧ (v3).toInt ≤ 11 → 12 - (v3).toInt ≤ m2 - 1 → zok (kh2 v3) (fun z => ((0 : Int) ≤ (z).toInt ∧ (z).toInt ≤ 1))) (h_s0 : I_Valley s0) (h_v1 : (0 : Int) ≤ (v1).toInt ∧ (v1).toInt ≤ 11) (h_v2 : (1 : Int) ≤ (v2).toInt ∧ (v2).toInt ≤ 99) (h_v3 : (0 : Int) ≤ (v3).toInt ∧ (v3).toInt ≤ 11) (hm2 : 12 - (v3).toInt ≤ m2) : zok (Valley_hasBeast_b2 N kh2 s0 v1 v2 v3) (fun z => ((0 : Int) ≤ (z).toInt ∧ (z).toInt ≤ 1)) := by
  rw [Valley_hasBeast_b2]
  have q2 : (0 : Int) ≤ ((zI s0 3)).toInt ∧ ((zI s0 3)).toInt ≤ 11 := (h_s0).1 3
  refine zok_ite (fun c1 => ?_) (fun c1 => ?_)
  · have q3 : ((zI s0 3)).toInt ≤ (v3).toInt := tle c1
    have q4 := li_0
    exact zok_some (show (0 : Int) ≤ ((0 : Int32)).toInt ∧ ((0 : Int32)).toInt ≤ 1 from ⟨by omega, by omega⟩)
  · have q5 : ((zI s0 3)).toInt > (v3).toInt := tnle c1
    refine zok_bind (t_Valley_isBeast N hN s0 v3 h_s0 (show (1 : Int) ≤ ((zI s0 3)).toInt ∧ ((zI s0 3)).toInt ≤ 11 from ⟨by omega, by omega⟩) (show (0 : Int) ≤ (v3).toInt ∧ (v3).toInt ≤ 10 from ⟨by omega, by omega⟩)) (fun z2 hz2 => ?_)
    have h_z2 := hz2
    have q7 := li_0
    refine zok_ite (fun c6 => ?_) (fun c6 => ?_)
    · have q8 : (z2).toInt = ((0 : Int32)).toInt := teq c6
      exact t_Valley_hasBeast_b40 N hN kh2 m2 _ _ _ _  hkh2 h_s0 (show (1 : Int) ≤ ((zI s0 3)).toInt ∧ ((zI s0 3)).toInt ≤ 11 from ⟨by omega, by omega⟩) (show (0 : Int) ≤ (v1).toInt ∧ (v1).toInt ≤ 11 from ⟨by omega, by omega⟩) (show (1 : Int) ≤ (v2).toInt ∧ (v2).toInt ≤ 99 from ⟨by omega, by omega⟩) (show (0 : Int) ≤ (v3).toInt ∧ (v3).toInt ≤ 10 from ⟨by omega, by omega⟩) (show 12 - (v3).toInt ≤ m2 from by omega)
    · have q9 : (z2).toInt ≠ ((0 : Int32)).toInt := tneq c6
      refine zok_ck (show vp_in v3 11 from vin (by omega) (by omega)) ?_
      have q11 : (0 : Int) ≤ (((zA s0 5) (Int32.toNatClampNeg v3))).toInt ∧ (((zA s0 5) (Int32.toNatClampNeg v3))).toInt ≤ 11 := (h_s0).2 5 _
      refine zok_ite (fun c10 => ?_) (fun c10 => ?_)
      · have q12 : (((zA s0 5) (Int32.toNatClampNeg v3))).toInt = (v1).toInt := teq c10
        refine zok_ck (show vp_in v3 11 from vin (by omega) (by omega)) ?_
        have q14 : (0 : Int) ≤ (((zA s0 6) (Int32.toNatClampNeg v3))).toInt ∧ (((zA s0 6) (Int32.toNatClampNeg v3))).toInt ≤ 99 := (h_s0).2 6 _
        refine zok_ite (fun c13 => ?_) (fun c13 => ?_)
        · have q15 : (((zA s0 6) (Int32.toNatClampNeg v3))).toInt = (v2).toInt := teq c13
          have q16 := li_1
          exact zok_some (show (0 : Int) ≤ ((1 : Int32)).toInt ∧ ((1 : Int32)).toInt ≤ 1 from ⟨by omega, by omega⟩)
        · have q17 : (((zA s0 6) (Int32.toNatClampNeg v3))).toInt ≠ (v2).toInt := tneq c13
          exact t_Valley_hasBeast_b40 N hN kh2 m2 _ _ _ _  hkh2 h_s0 (show (1 : Int) ≤ ((zI s0 3)).toInt ∧ ((zI s0 3)).toInt ≤ 11 from ⟨by omega, by omega⟩) (show (0 : Int) ≤ (v1).toInt ∧ (v1).toInt ≤ 11 from ⟨by omega, by omega⟩) (show (1 : Int) ≤ (v2).toInt ∧ (v2).toInt ≤ 99 from ⟨by omega, by omega⟩) (show (0 : Int) ≤ (v3).toInt ∧ (v3).toInt ≤ 10 from ⟨by omega, by omega⟩) (show 12 - (v3).toInt ≤ m2 from by omega)
      · have q18 : (((zA s0 5) (Int32.toNatClampNeg v3))).toInt ≠ (v1).toInt := tneq c10
        exact t_Valley_hasBeast_b40 N hN kh2 m2 _ _ _ _  hkh2 h_s0 (show (1 : Int) ≤ ((zI s0 3)).toInt ∧ ((zI s0 3)).toInt ≤ 11 from ⟨by omega, by omega⟩) (show (0 : Int) ≤ (v1).toInt ∧ (v1).toInt ≤ 11 from ⟨by omega, by omega⟩) (show (1 : Int) ≤ (v2).toInt ∧ (v2).toInt ≤ 99 from ⟨by omega, by omega⟩) (show (0 : Int) ≤ (v3).toInt ∧ (v3).toInt ≤ 10 from ⟨by omega, by omega⟩) (show 12 - (v3).toInt ≤ m2 from by omega)
theorem t_Valley_hasBeast_h2 (N : Nat) (hN : 50000000 ≤ N) (s0 : zSt) (v1 : Int32) (v2 : Int32) (h_s0 : I_Valley s0) (h_v1 : (0 : Int) ≤ (v1).toInt ∧ (v1).toInt ≤ 11) (h_v2 : (1 : Int) ≤ (v2).toInt ∧ (v2).toInt ≤ 99) : ∀ (n : Nat) (v3 : Int32), (0 : Int) ≤ (v3).toInt ∧ (v3).toInt ≤ 11 → 12 - (v3).toInt ≤ (n : Int) → zok (Valley_hasBeast_h2 N s0 v1 v2 n v3) (fun z => ((0 : Int) ≤ (z).toInt ∧ (z).toInt ≤ 1))
  | 0, v3, h_v3, hm => absurd hm (by omega)
  | n + 1, v3, h_v3, hm => by
    rw [Valley_hasBeast_h2_s]
    exact t_Valley_hasBeast_b2 N hN (Valley_hasBeast_h2 N s0 v1 v2 n) ((n + 1 : Nat) : Int) s0 v1 v2 v3  (fun v3 h_v3 q => t_Valley_hasBeast_h2 N hN  s0 v1 v2   h_s0 h_v1 h_v2   n v3 h_v3 (by omega)) h_s0 h_v1 h_v2 h_v3  hm
theorem t_Valley_hasBeast_b0 (N : Nat) (hN : 50000000 ≤ N) (s0 : zSt) (v1 : Int32) (v2 : Int32) (h_s0 : I_Valley s0) (h_v1 : (0 : Int) ≤ (v1).toInt ∧ (v1).toInt ≤ 11) (h_v2 : (1 : Int) ≤ (v2).toInt ∧ (v2).toInt ≤ 99) : zok (Valley_hasBeast_b0 N s0 v1 v2) (fun z => ((0 : Int) ≤ (z).toInt ∧ (z).toInt ≤ 1)) := by
  rw [Valley_hasBeast_b0]
  have q1 := li_0
  exact t_Valley_hasBeast_h2 N hN  _ _ _   h_s0 (show (0 : Int) ≤ (v1).toInt ∧ (v1).toInt ≤ 11 from ⟨by omega, by omega⟩) (show (1 : Int) ≤ (v2).toInt ∧ (v2).toInt ≤ 99 from ⟨by omega, by omega⟩)  N _ (show (0 : Int) ≤ ((0 : Int32)).toInt ∧ ((0 : Int32)).toInt ≤ 11 from ⟨by omega, by omega⟩) (show 12 - ((0 : Int32)).toInt ≤ (N : Int) from by omega)
theorem t_Valley_hasBeast (N : Nat) (hN : 50000000 ≤ N) (s0 : zSt) (v1 : Int32) (v2 : Int32) (h_s0 : I_Valley s0) (h_v1 : (0 : Int) ≤ (v1).toInt ∧ (v1).toInt ≤ 11) (h_v2 : (1 : Int) ≤ (v2).toInt ∧ (v2).toInt ≤ 99) : zok (Valley_hasBeast N s0 v1 v2) (fun z => ((0 : Int) ≤ (z).toInt ∧ (z).toInt ≤ 1)) :=
  t_Valley_hasBeast_b0 N hN s0 v1 v2  h_s0 h_v1 h_v2 
theorem t_Valley_eachIsKnown_b75 (N : Nat) (hN : 50000000 ≤ N) (kh2 : Int32 → Option (Int32)) (m2 : Int) (kh12 : Int32 → Option (Int32)) (m12 : Int) (s0 : zSt) (v1 : Int32) (v2 : Int32) (hkh2 : ∀ (v1 : Int32), (0 : Int) ≤ (v1).toInt ∧ (v1).toInt ≤ 11 → 12 - (v1).toInt ≤ m2 - 1 → zok (kh2 v1) (fun z => ((0 : Int) ≤ (z).toInt ∧ (z).toInt ≤ 1))) (hkh12 : ∀ (v2 : Int32), (0 : Int) ≤ (v2).toInt ∧ (v2).toInt ≤ 10 → 11 - (v2).toInt ≤ m12 - 1 → zok (kh12 v2) (fun z => ((0 : Int) ≤ (z).toInt ∧ (z).toInt ≤ 1))) (h_s0 : I_Valley s0) (h_s0_3 : (1 : Int) ≤ (zI s0 3).toInt ∧ (zI s0 3).toInt ≤ 11) (h_v1 : (1 : Int) ≤ (v1).toInt ∧ (v1).toInt ≤ 10) (h_v2 : (0 : Int) ≤ (v2).toInt ∧ (v2).toInt ≤ 9) (hm2 : 12 - (v1).toInt ≤ m2) (hm12 : 11 - (v2).toInt ≤ m12) : zok (Valley_eachIsKnown_b75 N kh2 kh12 s0 v1 v2) (fun z => ((0 : Int) ≤ (z).toInt ∧ (z).toInt ≤ 1)) := by
  rw [Valley_eachIsKnown_b75]
  have q1 := li_1
  have q2 := tadd v2 (1 : Int32) (by omega) (by omega)
  exact hkh12 _ (show (0 : Int) ≤ ((v2 + (1 : Int32))).toInt ∧ ((v2 + (1 : Int32))).toInt ≤ 10 from ⟨by omega, by omega⟩) (show 11 - ((v2 + (1 : Int32))).toInt ≤ m12 - 1 by omega)
theorem t_Valley_eachIsKnown_b38 (N : Nat) (hN : 50000000 ≤ N) (kh2 : Int32 → Option (Int32)) (m2 : Int) (kh12 : Int32 → Option (Int32)) (m12 : Int) (s0 : zSt) (v1 : Int32) (v2 : Int32) (t0 : Int32) (hkh2 : ∀ (v1 : Int32), (0 : Int) ≤ (v1).toInt ∧ (v1).toInt ≤ 11 → 12 - (v1).toInt ≤ m2 - 1 → zok (kh2 v1) (fun z => ((0 : Int) ≤ (z).toInt ∧ (z).toInt ≤ 1))) (hkh12 : ∀ (v2 : Int32), (0 : Int) ≤ (v2).toInt ∧ (v2).toInt ≤ 10 → 11 - (v2).toInt ≤ m12 - 1 → zok (kh12 v2) (fun z => ((0 : Int) ≤ (z).toInt ∧ (z).toInt ≤ 1))) (h_s0 : I_Valley s0) (h_s0_3 : (1 : Int) ≤ (zI s0 3).toInt ∧ (zI s0 3).toInt ≤ 11) (h_v1 : (1 : Int) ≤ (v1).toInt ∧ (v1).toInt ≤ 10) (h_v2 : (0 : Int) ≤ (v2).toInt ∧ (v2).toInt ≤ 9) (h_t0 : (0 : Int) ≤ (t0).toInt ∧ (t0).toInt ≤ 1) (hm2 : 12 - (v1).toInt ≤ m2) (hm12 : 11 - (v2).toInt ≤ m12) : zok (Valley_eachIsKnown_b38 N kh2 kh12 s0 v1 v2 t0) (fun z => ((0 : Int) ≤ (z).toInt ∧ (z).toInt ≤ 1)) := by
  rw [Valley_eachIsKnown_b38]
  have q2 := li_0
  refine zok_ite (fun c1 => ?_) (fun c1 => ?_)
  · have q3 : (t0).toInt = ((0 : Int32)).toInt := teq c1
    have q4 : (0 : Int) ≤ ((zI s0 3)).toInt ∧ ((zI s0 3)).toInt ≤ 11 := (h_s0).1 3
    exact t_Valley_eachIsKnown_b75 N hN kh2 m2 kh12 m12 _ _ _  hkh2 hkh12 h_s0 (show (1 : Int) ≤ ((zI s0 3)).toInt ∧ ((zI s0 3)).toInt ≤ 11 from ⟨by omega, by omega⟩) (show (1 : Int) ≤ (v1).toInt ∧ (v1).toInt ≤ 10 from ⟨by omega, by omega⟩) (show (0 : Int) ≤ (v2).toInt ∧ (v2).toInt ≤ 9 from ⟨by omega, by omega⟩) (show 12 - (v1).toInt ≤ m2 from by omega) (show 11 - (v2).toInt ≤ m12 from by omega)
  · have q5 : (t0).toInt ≠ ((0 : Int32)).toInt := tneq c1
    refine zok_ck (show vp_in v1 11 from vin (by omega) (by omega)) ?_
    refine zok_ck (show vp_in v2 11 from vin (by omega) (by omega)) ?_
    have q7 : (0 : Int) ≤ (((zA s0 5) (Int32.toNatClampNeg v1))).toInt ∧ (((zA s0 5) (Int32.toNatClampNeg v1))).toInt ≤ 11 := (h_s0).2 5 _
    have q8 : (0 : Int) ≤ (((zA s0 5) (Int32.toNatClampNeg v2))).toInt ∧ (((zA s0 5) (Int32.toNatClampNeg v2))).toInt ≤ 11 := (h_s0).2 5 _
    refine zok_ite (fun c6 => ?_) (fun c6 => ?_)
    · have q9 : (((zA s0 5) (Int32.toNatClampNeg v1))).toInt = (((zA s0 5) (Int32.toNatClampNeg v2))).toInt := teq c6
      refine zok_ck (show vp_in v1 11 from vin (by omega) (by omega)) ?_
      refine zok_ck (show vp_in v2 11 from vin (by omega) (by omega)) ?_
      have q11 : (0 : Int) ≤ (((zA s0 6) (Int32.toNatClampNeg v1))).toInt ∧ (((zA s0 6) (Int32.toNatClampNeg v1))).toInt ≤ 99 := (h_s0).2 6 _
      have q12 : (0 : Int) ≤ (((zA s0 6) (Int32.toNatClampNeg v2))).toInt ∧ (((zA s0 6) (Int32.toNatClampNeg v2))).toInt ≤ 99 := (h_s0).2 6 _
      refine zok_ite (fun c10 => ?_) (fun c10 => ?_)
      · have q13 : (((zA s0 6) (Int32.toNatClampNeg v1))).toInt = (((zA s0 6) (Int32.toNatClampNeg v2))).toInt := teq c10
        exact zok_some (show (0 : Int) ≤ ((0 : Int32)).toInt ∧ ((0 : Int32)).toInt ≤ 1 from ⟨by omega, by omega⟩)
      · have q14 : (((zA s0 6) (Int32.toNatClampNeg v1))).toInt ≠ (((zA s0 6) (Int32.toNatClampNeg v2))).toInt := tneq c10
        have q15 : (0 : Int) ≤ ((zI s0 3)).toInt ∧ ((zI s0 3)).toInt ≤ 11 := (h_s0).1 3
        exact t_Valley_eachIsKnown_b75 N hN kh2 m2 kh12 m12 _ _ _  hkh2 hkh12 h_s0 (show (1 : Int) ≤ ((zI s0 3)).toInt ∧ ((zI s0 3)).toInt ≤ 11 from ⟨by omega, by omega⟩) (show (1 : Int) ≤ (v1).toInt ∧ (v1).toInt ≤ 10 from ⟨by omega, by omega⟩) (show (0 : Int) ≤ (v2).toInt ∧ (v2).toInt ≤ 9 from ⟨by omega, by omega⟩) (show 12 - (v1).toInt ≤ m2 from by omega) (show 11 - (v2).toInt ≤ m12 from by omega)
    · have q16 : (((zA s0 5) (Int32.toNatClampNeg v1))).toInt ≠ (((zA s0 5) (Int32.toNatClampNeg v2))).toInt := tneq c6
      have q17 : (0 : Int) ≤ ((zI s0 3)).toInt ∧ ((zI s0 3)).toInt ≤ 11 := (h_s0).1 3
      exact t_Valley_eachIsKnown_b75 N hN kh2 m2 kh12 m12 _ _ _  hkh2 hkh12 h_s0 (show (1 : Int) ≤ ((zI s0 3)).toInt ∧ ((zI s0 3)).toInt ≤ 11 from ⟨by omega, by omega⟩) (show (1 : Int) ≤ (v1).toInt ∧ (v1).toInt ≤ 10 from ⟨by omega, by omega⟩) (show (0 : Int) ≤ (v2).toInt ∧ (v2).toInt ≤ 9 from ⟨by omega, by omega⟩) (show 12 - (v1).toInt ≤ m2 from by omega) (show 11 - (v2).toInt ≤ m12 from by omega)
theorem t_Valley_eachIsKnown_b37 (N : Nat) (hN : 50000000 ≤ N) (kh2 : Int32 → Option (Int32)) (m2 : Int) (kh12 : Int32 → Option (Int32)) (m12 : Int) (s0 : zSt) (v1 : Int32) (v2 : Int32) (hkh2 : ∀ (v1 : Int32), (0 : Int) ≤ (v1).toInt ∧ (v1).toInt ≤ 11 → 12 - (v1).toInt ≤ m2 - 1 → zok (kh2 v1) (fun z => ((0 : Int) ≤ (z).toInt ∧ (z).toInt ≤ 1))) (hkh12 : ∀ (v2 : Int32), (0 : Int) ≤ (v2).toInt ∧ (v2).toInt ≤ 10 → 11 - (v2).toInt ≤ m12 - 1 → zok (kh12 v2) (fun z => ((0 : Int) ≤ (z).toInt ∧ (z).toInt ≤ 1))) (h_s0 : I_Valley s0) (h_s0_3 : (1 : Int) ≤ (zI s0 3).toInt ∧ (zI s0 3).toInt ≤ 11) (h_v1 : (1 : Int) ≤ (v1).toInt ∧ (v1).toInt ≤ 10) (h_v2 : (0 : Int) ≤ (v2).toInt ∧ (v2).toInt ≤ 9) (hm2 : 12 - (v1).toInt ≤ m2) (hm12 : 11 - (v2).toInt ≤ m12) : zok (Valley_eachIsKnown_b37 N kh2 kh12 s0 v1 v2) (fun z => ((0 : Int) ≤ (z).toInt ∧ (z).toInt ≤ 1)) := by
  rw [Valley_eachIsKnown_b37]
  have q1 : (0 : Int) ≤ ((zI s0 3)).toInt ∧ ((zI s0 3)).toInt ≤ 11 := (h_s0).1 3
  have q2 := li_0
  exact t_Valley_eachIsKnown_b38 N hN kh2 m2 kh12 m12 _ _ _ _  hkh2 hkh12 h_s0 (show (1 : Int) ≤ ((zI s0 3)).toInt ∧ ((zI s0 3)).toInt ≤ 11 from ⟨by omega, by omega⟩) (show (1 : Int) ≤ (v1).toInt ∧ (v1).toInt ≤ 10 from ⟨by omega, by omega⟩) (show (0 : Int) ≤ (v2).toInt ∧ (v2).toInt ≤ 9 from ⟨by omega, by omega⟩) (show (0 : Int) ≤ ((0 : Int32)).toInt ∧ ((0 : Int32)).toInt ≤ 1 from ⟨by omega, by omega⟩) (show 12 - (v1).toInt ≤ m2 from by omega) (show 11 - (v2).toInt ≤ m12 from by omega)
theorem t_Valley_eachIsKnown_b12 (N : Nat) (hN : 50000000 ≤ N) (kh2 : Int32 → Option (Int32)) (m2 : Int) (kh12 : Int32 → Option (Int32)) (m12 : Int) (s0 : zSt) (v1 : Int32) (v2 : Int32) (hkh2 : ∀ (v1 : Int32), (0 : Int) ≤ (v1).toInt ∧ (v1).toInt ≤ 11 → 12 - (v1).toInt ≤ m2 - 1 → zok (kh2 v1) (fun z => ((0 : Int) ≤ (z).toInt ∧ (z).toInt ≤ 1))) (hkh12 : ∀ (v2 : Int32), (0 : Int) ≤ (v2).toInt ∧ (v2).toInt ≤ 10 → 11 - (v2).toInt ≤ m12 - 1 → zok (kh12 v2) (fun z => ((0 : Int) ≤ (z).toInt ∧ (z).toInt ≤ 1))) (h_s0 : I_Valley s0) (h_s0_3 : (1 : Int) ≤ (zI s0 3).toInt ∧ (zI s0 3).toInt ≤ 11) (h_v1 : (0 : Int) ≤ (v1).toInt ∧ (v1).toInt ≤ 10) (h_v2 : (0 : Int) ≤ (v2).toInt ∧ (v2).toInt ≤ 10) (hm2 : 12 - (v1).toInt ≤ m2) (hm12 : 11 - (v2).toInt ≤ m12) : zok (Valley_eachIsKnown_b12 N kh2 kh12 s0 v1 v2) (fun z => ((0 : Int) ≤ (z).toInt ∧ (z).toInt ≤ 1)) := by
  rw [Valley_eachIsKnown_b12]
  refine zok_ite (fun c1 => ?_) (fun c1 => ?_)
  · have q2 : (v1).toInt ≤ (v2).toInt := tle c1
    have q3 := li_1
    have q4 := tadd v1 (1 : Int32) (by omega) (by omega)
    exact hkh2 _ (show (0 : Int) ≤ ((v1 + (1 : Int32))).toInt ∧ ((v1 + (1 : Int32))).toInt ≤ 11 from ⟨by omega, by omega⟩) (show 12 - ((v1 + (1 : Int32))).toInt ≤ m2 - 1 by omega)
  · have q5 : (v1).toInt > (v2).toInt := tnle c1
    have q6 : (0 : Int) ≤ ((zI s0 3)).toInt ∧ ((zI s0 3)).toInt ≤ 11 := (h_s0).1 3
    refine zok_bind (t_Valley_isBeast N hN s0 v1 h_s0 (show (1 : Int) ≤ ((zI s0 3)).toInt ∧ ((zI s0 3)).toInt ≤ 11 from ⟨by omega, by omega⟩) (show (0 : Int) ≤ (v1).toInt ∧ (v1).toInt ≤ 10 from ⟨by omega, by omega⟩)) (fun z2 hz2 => ?_)
    have h_z2 := hz2
    have q8 := li_0
    refine zok_ite (fun c7 => ?_) (fun c7 => ?_)
    · have q9 : (z2).toInt = ((0 : Int32)).toInt := teq c7
      exact t_Valley_eachIsKnown_b37 N hN kh2 m2 kh12 m12 _ _ _  hkh2 hkh12 h_s0 (show (1 : Int) ≤ ((zI s0 3)).toInt ∧ ((zI s0 3)).toInt ≤ 11 from ⟨by omega, by omega⟩) (show (1 : Int) ≤ (v1).toInt ∧ (v1).toInt ≤ 10 from ⟨by omega, by omega⟩) (show (0 : Int) ≤ (v2).toInt ∧ (v2).toInt ≤ 9 from ⟨by omega, by omega⟩) (show 12 - (v1).toInt ≤ m2 from by omega) (show 11 - (v2).toInt ≤ m12 from by omega)
    · have q10 : (z2).toInt ≠ ((0 : Int32)).toInt := tneq c7
      refine zok_bind (t_Valley_isBeast N hN s0 v2 h_s0 (show (1 : Int) ≤ ((zI s0 3)).toInt ∧ ((zI s0 3)).toInt ≤ 11 from ⟨by omega, by omega⟩) (show (0 : Int) ≤ (v2).toInt ∧ (v2).toInt ≤ 10 from ⟨by omega, by omega⟩)) (fun z5 hz5 => ?_)
      have h_z5 := hz5
      refine zok_ite (fun c11 => ?_) (fun c11 => ?_)
      · have q12 : (z5).toInt = ((0 : Int32)).toInt := teq c11
        exact t_Valley_eachIsKnown_b37 N hN kh2 m2 kh12 m12 _ _ _  hkh2 hkh12 h_s0 (show (1 : Int) ≤ ((zI s0 3)).toInt ∧ ((zI s0 3)).toInt ≤ 11 from ⟨by omega, by omega⟩) (show (1 : Int) ≤ (v1).toInt ∧ (v1).toInt ≤ 10 from ⟨by omega, by omega⟩) (show (0 : Int) ≤ (v2).toInt ∧ (v2).toInt ≤ 9 from ⟨by omega, by omega⟩) (show 12 - (v1).toInt ≤ m2 from by omega) (show 11 - (v2).toInt ≤ m12 from by omega)
      · have q13 : (z5).toInt ≠ ((0 : Int32)).toInt := tneq c11
        have q14 := li_1
        exact t_Valley_eachIsKnown_b38 N hN kh2 m2 kh12 m12 _ _ _ _  hkh2 hkh12 h_s0 (show (1 : Int) ≤ ((zI s0 3)).toInt ∧ ((zI s0 3)).toInt ≤ 11 from ⟨by omega, by omega⟩) (show (1 : Int) ≤ (v1).toInt ∧ (v1).toInt ≤ 10 from ⟨by omega, by omega⟩) (show (0 : Int) ≤ (v2).toInt ∧ (v2).toInt ≤ 9 from ⟨by omega, by omega⟩) (show (0 : Int) ≤ ((1 : Int32)).toInt ∧ ((1 : Int32)).toInt ≤ 1 from ⟨by omega, by omega⟩) (show 12 - (v1).toInt ≤ m2 from by omega) (show 11 - (v2).toInt ≤ m12 from by omega)
theorem t_Valley_eachIsKnown_h12 (N : Nat) (hN : 50000000 ≤ N) (kh2 : Int32 → Option (Int32)) (m2 : Int) (s0 : zSt) (v1 : Int32) (hkh2 : ∀ (v1 : Int32), (0 : Int) ≤ (v1).toInt ∧ (v1).toInt ≤ 11 → 12 - (v1).toInt ≤ m2 - 1 → zok (kh2 v1) (fun z => ((0 : Int) ≤ (z).toInt ∧ (z).toInt ≤ 1))) (h_s0 : I_Valley s0) (h_s0_3 : (1 : Int) ≤ (zI s0 3).toInt ∧ (zI s0 3).toInt ≤ 11) (h_v1 : (0 : Int) ≤ (v1).toInt ∧ (v1).toInt ≤ 10) (hm2 : 12 - (v1).toInt ≤ m2) : ∀ (n : Nat) (v2 : Int32), (0 : Int) ≤ (v2).toInt ∧ (v2).toInt ≤ 10 → 11 - (v2).toInt ≤ (n : Int) → zok (Valley_eachIsKnown_h12 N kh2 s0 v1 n v2) (fun z => ((0 : Int) ≤ (z).toInt ∧ (z).toInt ≤ 1))
  | 0, v2, h_v2, hm => absurd hm (by omega)
  | n + 1, v2, h_v2, hm => by
    rw [Valley_eachIsKnown_h12_s]
    exact t_Valley_eachIsKnown_b12 N hN kh2 m2 (Valley_eachIsKnown_h12 N kh2 s0 v1 n) ((n + 1 : Nat) : Int) s0 v1 v2  hkh2 (fun v2 h_v2 q => t_Valley_eachIsKnown_h12 N hN kh2 m2 s0 v1  hkh2 h_s0 h_s0_3 h_v1  hm2 n v2 h_v2 (by omega)) h_s0 h_s0_3 h_v1 h_v2  hm2 hm
theorem t_Valley_eachIsKnown_b2 (N : Nat) (hN : 50000000 ≤ N) (kh2 : Int32 → Option (Int32)) (m2 : Int) (s0 : zSt) (v1 : Int32) (hkh2 : ∀ (v1 : Int32), (0 : Int) ≤ (v1).toInt ∧ (v1).toInt ≤ 11 → 12 - (v1).toInt ≤ m2 - 1 → zok (kh2 v1) (fun z => ((0 : Int) ≤ (z).toInt ∧ (z).toInt ≤ 1))) (h_s0 : I_Valley s0) (h_v1 : (0 : Int) ≤ (v1).toInt ∧ (v1).toInt ≤ 11) (hm2 : 12 - (v1).toInt ≤ m2) : zok (Valley_eachIsKnown_b2 N kh2 s0 v1) (fun z => ((0 : Int) ≤ (z).toInt ∧ (z).toInt ≤ 1)) := by
  rw [Valley_eachIsKnown_b2]
  have q2 : (0 : Int) ≤ ((zI s0 3)).toInt ∧ ((zI s0 3)).toInt ≤ 11 := (h_s0).1 3
  refine zok_ite (fun c1 => ?_) (fun c1 => ?_)
  · have q3 : ((zI s0 3)).toInt ≤ (v1).toInt := tle c1
    have q4 := li_1
    exact zok_some (show (0 : Int) ≤ ((1 : Int32)).toInt ∧ ((1 : Int32)).toInt ≤ 1 from ⟨by omega, by omega⟩)
  · have q5 : ((zI s0 3)).toInt > (v1).toInt := tnle c1
    have q6 := li_0
    exact t_Valley_eachIsKnown_h12 N hN kh2 m2 _ _  hkh2 h_s0 (show (1 : Int) ≤ ((zI s0 3)).toInt ∧ ((zI s0 3)).toInt ≤ 11 from ⟨by omega, by omega⟩) (show (0 : Int) ≤ (v1).toInt ∧ (v1).toInt ≤ 10 from ⟨by omega, by omega⟩) (show 12 - (v1).toInt ≤ m2 from by omega) N _ (show (0 : Int) ≤ ((0 : Int32)).toInt ∧ ((0 : Int32)).toInt ≤ 10 from ⟨by omega, by omega⟩) (show 11 - ((0 : Int32)).toInt ≤ (N : Int) from by omega)
theorem t_Valley_eachIsKnown_h2 (N : Nat) (hN : 50000000 ≤ N) (s0 : zSt) (h_s0 : I_Valley s0) : ∀ (n : Nat) (v1 : Int32), (0 : Int) ≤ (v1).toInt ∧ (v1).toInt ≤ 11 → 12 - (v1).toInt ≤ (n : Int) → zok (Valley_eachIsKnown_h2 N s0 n v1) (fun z => ((0 : Int) ≤ (z).toInt ∧ (z).toInt ≤ 1))
  | 0, v1, h_v1, hm => absurd hm (by omega)
  | n + 1, v1, h_v1, hm => by
    rw [Valley_eachIsKnown_h2_s]
    exact t_Valley_eachIsKnown_b2 N hN (Valley_eachIsKnown_h2 N s0 n) ((n + 1 : Nat) : Int) s0 v1  (fun v1 h_v1 q => t_Valley_eachIsKnown_h2 N hN  s0   h_s0   n v1 h_v1 (by omega)) h_s0 h_v1  hm
theorem t_Valley_eachIsKnown_b0 (N : Nat) (hN : 50000000 ≤ N) (s0 : zSt) (h_s0 : I_Valley s0) : zok (Valley_eachIsKnown_b0 N s0) (fun z => ((0 : Int) ≤ (z).toInt ∧ (z).toInt ≤ 1)) := by
  rw [Valley_eachIsKnown_b0]
  have q1 := li_0
  exact t_Valley_eachIsKnown_h2 N hN  _   h_s0  N _ (show (0 : Int) ≤ ((0 : Int32)).toInt ∧ ((0 : Int32)).toInt ≤ 11 from ⟨by omega, by omega⟩) (show 12 - ((0 : Int32)).toInt ≤ (N : Int) from by omega)
theorem t_Valley_eachIsKnown (N : Nat) (hN : 50000000 ≤ N) (s0 : zSt) (h_s0 : I_Valley s0) : zok (Valley_eachIsKnown N s0) (fun z => ((0 : Int) ≤ (z).toInt ∧ (z).toInt ≤ 1)) :=
  t_Valley_eachIsKnown_b0 N hN s0  h_s0 
theorem t_Valley_withThoseBeside_b30 (N : Nat) (hN : 50000000 ≤ N) (kh4 : Int32 → Int32 → Option (Int32)) (m4 : Int) (s0 : zSt) (v1 : Int32) (v2 : Int32) (v3 : Int32) (hkh4 : ∀ (v2 : Int32) (v3 : Int32), (0 : Int) ≤ (v3).toInt ∧ (v3).toInt ≤ 11 → 12 - (v3).toInt ≤ m4 - 1 → zok (kh4 v2 v3) (fun z => True)) (h_s0 : I_Valley s0) (h_s0_3 : (1 : Int) ≤ (zI s0 3).toInt ∧ (zI s0 3).toInt ≤ 11) (h_v3 : (0 : Int) ≤ (v3).toInt ∧ (v3).toInt ≤ 10) (hm4 : 12 - (v3).toInt ≤ m4) : zok (Valley_withThoseBeside_b30 N kh4 s0 v1 v2 v3) (fun z => True) := by
  rw [Valley_withThoseBeside_b30]
  have q1 := li_1
  have q2 := tadd v3 (1 : Int32) (by omega) (by omega)
  exact hkh4 _ _ (show (0 : Int) ≤ ((v3 + (1 : Int32))).toInt ∧ ((v3 + (1 : Int32))).toInt ≤ 11 from ⟨by omega, by omega⟩) (show 12 - ((v3 + (1 : Int32))).toInt ≤ m4 - 1 by omega)
theorem t_Valley_withThoseBeside_b4 (N : Nat) (hN : 50000000 ≤ N) (kh4 : Int32 → Int32 → Option (Int32)) (m4 : Int) (s0 : zSt) (v1 : Int32) (v2 : Int32) (v3 : Int32) (hkh4 : ∀ (v2 : Int32) (v3 : Int32), (0 : Int) ≤ (v3).toInt ∧ (v3).toInt ≤ 11 → 12 - (v3).toInt ≤ m4 - 1 → zok (kh4 v2 v3) (fun z => True)) (h_s0 : I_Valley s0) (h_v3 : (0 : Int) ≤ (v3).toInt ∧ (v3).toInt ≤ 11) (hm4 : 12 - (v3).toInt ≤ m4) : zok (Valley_withThoseBeside_b4 N kh4 s0 v1 v2 v3) (fun z => True) := by
  rw [Valley_withThoseBeside_b4]
  have q2 : (0 : Int) ≤ ((zI s0 3)).toInt ∧ ((zI s0 3)).toInt ≤ 11 := (h_s0).1 3
  refine zok_ite (fun c1 => ?_) (fun c1 => ?_)
  · have q3 : ((zI s0 3)).toInt ≤ (v3).toInt := tle c1
    exact zok_some trivial
  · have q4 : ((zI s0 3)).toInt > (v3).toInt := tnle c1
    refine zok_ite (fun c5 => ?_) (fun c5 => ?_)
    · refine zok_ck (show vp_in v3 11 from vin (by omega) (by omega)) ?_
      exact t_Valley_withThoseBeside_b30 N hN kh4 m4 _ _ _ _  hkh4 h_s0 (show (1 : Int) ≤ ((zI s0 3)).toInt ∧ ((zI s0 3)).toInt ≤ 11 from ⟨by omega, by omega⟩) (show (0 : Int) ≤ (v3).toInt ∧ (v3).toInt ≤ 10 from ⟨by omega, by omega⟩) (show 12 - (v3).toInt ≤ m4 from by omega)
    · exact t_Valley_withThoseBeside_b30 N hN kh4 m4 _ _ _ _  hkh4 h_s0 (show (1 : Int) ≤ ((zI s0 3)).toInt ∧ ((zI s0 3)).toInt ≤ 11 from ⟨by omega, by omega⟩) (show (0 : Int) ≤ (v3).toInt ∧ (v3).toInt ≤ 10 from ⟨by omega, by omega⟩) (show 12 - (v3).toInt ≤ m4 from by omega)
theorem t_Valley_withThoseBeside_h4 (N : Nat) (hN : 50000000 ≤ N) (s0 : zSt) (v1 : Int32) (h_s0 : I_Valley s0) : ∀ (n : Nat) (v2 : Int32) (v3 : Int32), (0 : Int) ≤ (v3).toInt ∧ (v3).toInt ≤ 11 → 12 - (v3).toInt ≤ (n : Int) → zok (Valley_withThoseBeside_h4 N s0 v1 n v2 v3) (fun z => True)
  | 0, v2, v3, h_v3, hm => absurd hm (by omega)
  | n + 1, v2, v3, h_v3, hm => by
    rw [Valley_withThoseBeside_h4_s]
    exact t_Valley_withThoseBeside_b4 N hN (Valley_withThoseBeside_h4 N s0 v1 n) ((n + 1 : Nat) : Int) s0 v1 v2 v3  (fun v2 v3 h_v3 q => t_Valley_withThoseBeside_h4 N hN  s0 v1   h_s0   n v2 v3 h_v3 (by omega)) h_s0 h_v3  hm
theorem t_Valley_withThoseBeside_b0 (N : Nat) (hN : 50000000 ≤ N) (s0 : zSt) (v1 : Int32) (h_s0 : I_Valley s0) : zok (Valley_withThoseBeside_b0 N s0 v1) (fun z => True) := by
  rw [Valley_withThoseBeside_b0]
  have q1 := li_0
  exact t_Valley_withThoseBeside_h4 N hN  _ _   h_s0  N _ _ (show (0 : Int) ≤ ((0 : Int32)).toInt ∧ ((0 : Int32)).toInt ≤ 11 from ⟨by omega, by omega⟩) (show 12 - ((0 : Int32)).toInt ≤ (N : Int) from by omega)
theorem t_Valley_withThoseBeside (N : Nat) (hN : 50000000 ≤ N) (s0 : zSt) (v1 : Int32) (h_s0 : I_Valley s0) : zok (Valley_withThoseBeside N s0 v1) (fun z => True) :=
  t_Valley_withThoseBeside_b0 N hN s0 v1  h_s0 
theorem t_Valley_farFrom_b54 (N : Nat) (hN : 50000000 ≤ N) (kh6 : Int32 → Int32 → Option (Int32)) (m6 : Int) (s0 : zSt) (v1 : Int32) (v2 : Int32) (v3 : Int32) (v4 : Int32) (hkh6 : ∀ (v3 : Int32) (v4 : Int32), (0 : Int) ≤ (v4).toInt ∧ (v4).toInt ≤ 11 → 12 - (v4).toInt ≤ m6 - 1 → zok (kh6 v3 v4) (fun z => True)) (h_s0 : I_Valley s0) (h_s0_3 : (1 : Int) ≤ (zI s0 3).toInt ∧ (zI s0 3).toInt ≤ 11) (h_v1 : (0 : Int) ≤ (v1).toInt ∧ (v1).toInt ≤ 11) (h_v4 : (0 : Int) ≤ (v4).toInt ∧ (v4).toInt ≤ 10) (hm6 : 12 - (v4).toInt ≤ m6) : zok (Valley_farFrom_b54 N kh6 s0 v1 v2 v3 v4) (fun z => True) := by
  rw [Valley_farFrom_b54]
  have q1 := li_1
  have q2 := tadd v4 (1 : Int32) (by omega) (by omega)
  exact hkh6 _ _ (show (0 : Int) ≤ ((v4 + (1 : Int32))).toInt ∧ ((v4 + (1 : Int32))).toInt ≤ 11 from ⟨by omega, by omega⟩) (show 12 - ((v4 + (1 : Int32))).toInt ≤ m6 - 1 by omega)
theorem t_Valley_farFrom_b6 (N : Nat) (hN : 50000000 ≤ N) (kh6 : Int32 → Int32 → Option (Int32)) (m6 : Int) (s0 : zSt) (v1 : Int32) (v2 : Int32) (v3 : Int32) (v4 : Int32) (hkh6 : ∀ (v3 : Int32) (v4 : Int32), (0 : Int) ≤ (v4).toInt ∧ (v4).toInt ≤ 11 → 12 - (v4).toInt ≤ m6 - 1 → zok (kh6 v3 v4) (fun z => True)) (h_s0 : I_Valley s0) (h_v1 : (0 : Int) ≤ (v1).toInt ∧ (v1).toInt ≤ 11) (h_v4 : (0 : Int) ≤ (v4).toInt ∧ (v4).toInt ≤ 11) (hm6 : 12 - (v4).toInt ≤ m6) : zok (Valley_farFrom_b6 N kh6 s0 v1 v2 v3 v4) (fun z => True) := by
  rw [Valley_farFrom_b6]
  have q2 : (0 : Int) ≤ ((zI s0 3)).toInt ∧ ((zI s0 3)).toInt ≤ 11 := (h_s0).1 3
  refine zok_ite (fun c1 => ?_) (fun c1 => ?_)
  · have q3 : ((zI s0 3)).toInt ≤ (v4).toInt := tle c1
    exact zok_some trivial
  · have q4 : ((zI s0 3)).toInt > (v4).toInt := tnle c1
    refine zok_ite (fun c5 => ?_) (fun c5 => ?_)
    · refine zok_ck (show vp_in v4 11 from vin (by omega) (by omega)) ?_
      have q6 : (0 : Int) ≤ (((zA s0 5) (Int32.toNatClampNeg v4))).toInt ∧ (((zA s0 5) (Int32.toNatClampNeg v4))).toInt ≤ 11 := (h_s0).2 5 _
      have q7 := tsub v1 ((zA s0 5) (Int32.toNatClampNeg v4)) (by omega) (by omega)
      refine zok_bind (t_Math_abs N hN (v1 - ((zA s0 5) (Int32.toNatClampNeg v4))) (show (-99 : Int) ≤ ((v1 - ((zA s0 5) (Int32.toNatClampNeg v4)))).toInt ∧ ((v1 - ((zA s0 5) (Int32.toNatClampNeg v4)))).toInt ≤ 99 from ⟨by omega, by omega⟩)) (fun z4 hz4 => ?_)
      have h_z4 := hz4
      refine zok_bind (t_Math_min N hN z4 ((12 : Int32) - z4) ) (fun z6 hz6 => ?_)
      have h_z6 := hz6
      refine zok_bind (t_Math_min N hN v3 z6 ) (fun z8 hz8 => ?_)
      have h_z8 := hz8
      exact t_Valley_farFrom_b54 N hN kh6 m6 _ _ _ _ _  hkh6 h_s0 (show (1 : Int) ≤ ((zI s0 3)).toInt ∧ ((zI s0 3)).toInt ≤ 11 from ⟨by omega, by omega⟩) (show (0 : Int) ≤ (v1).toInt ∧ (v1).toInt ≤ 11 from ⟨by omega, by omega⟩) (show (0 : Int) ≤ (v4).toInt ∧ (v4).toInt ≤ 10 from ⟨by omega, by omega⟩) (show 12 - (v4).toInt ≤ m6 from by omega)
    · exact t_Valley_farFrom_b54 N hN kh6 m6 _ _ _ _ _  hkh6 h_s0 (show (1 : Int) ≤ ((zI s0 3)).toInt ∧ ((zI s0 3)).toInt ≤ 11 from ⟨by omega, by omega⟩) (show (0 : Int) ≤ (v1).toInt ∧ (v1).toInt ≤ 11 from ⟨by omega, by omega⟩) (show (0 : Int) ≤ (v4).toInt ∧ (v4).toInt ≤ 10 from ⟨by omega, by omega⟩) (show 12 - (v4).toInt ≤ m6 from by omega)
theorem t_Valley_farFrom_h6 (N : Nat) (hN : 50000000 ≤ N) (s0 : zSt) (v1 : Int32) (v2 : Int32) (h_s0 : I_Valley s0) (h_v1 : (0 : Int) ≤ (v1).toInt ∧ (v1).toInt ≤ 11) : ∀ (n : Nat) (v3 : Int32) (v4 : Int32), (0 : Int) ≤ (v4).toInt ∧ (v4).toInt ≤ 11 → 12 - (v4).toInt ≤ (n : Int) → zok (Valley_farFrom_h6 N s0 v1 v2 n v3 v4) (fun z => True)
  | 0, v3, v4, h_v4, hm => absurd hm (by omega)
  | n + 1, v3, v4, h_v4, hm => by
    rw [Valley_farFrom_h6_s]
    exact t_Valley_farFrom_b6 N hN (Valley_farFrom_h6 N s0 v1 v2 n) ((n + 1 : Nat) : Int) s0 v1 v2 v3 v4  (fun v3 v4 h_v4 q => t_Valley_farFrom_h6 N hN  s0 v1 v2   h_s0 h_v1   n v3 v4 h_v4 (by omega)) h_s0 h_v1 h_v4  hm
theorem t_Valley_farFrom_b0 (N : Nat) (hN : 50000000 ≤ N) (s0 : zSt) (v1 : Int32) (v2 : Int32) (h_s0 : I_Valley s0) (h_v1 : (0 : Int) ≤ (v1).toInt ∧ (v1).toInt ≤ 11) : zok (Valley_farFrom_b0 N s0 v1 v2) (fun z => True) := by
  rw [Valley_farFrom_b0]
  have q1 := li_0
  exact t_Valley_farFrom_h6 N hN  _ _ _   h_s0 (show (0 : Int) ≤ (v1).toInt ∧ (v1).toInt ≤ 11 from ⟨by omega, by omega⟩)  N _ _ (show (0 : Int) ≤ ((0 : Int32)).toInt ∧ ((0 : Int32)).toInt ≤ 11 from ⟨by omega, by omega⟩) (show 12 - ((0 : Int32)).toInt ≤ (N : Int) from by omega)
theorem t_Valley_farFrom (N : Nat) (hN : 50000000 ≤ N) (s0 : zSt) (v1 : Int32) (v2 : Int32) (h_s0 : I_Valley s0) (h_v1 : (0 : Int) ≤ (v1).toInt ∧ (v1).toInt ≤ 11) : zok (Valley_farFrom N s0 v1 v2) (fun z => True) :=
  t_Valley_farFrom_b0 N hN s0 v1 v2  h_s0 h_v1 
theorem t_CH_end_b0 (N : Nat) (hN : 50000000 ≤ N) (s0 : zSt) (v1 : Int32) (gs0 : zSt) (h_s0 : I_CH s0) (g_s0 : Fr [1] [] s0 gs0) : zok (CH_end_b0 N s0 v1) (fun z => ((-1 : Int) ≤ (z.1).toInt ∧ (z.1).toInt ≤ 1500) ∧ I_CH z.2 ∧ Fr [1] [] z.2 gs0) := by
  rw [CH_end_b0]
  rcases u_CH_within N v1 (0 : Int32) (zI s0 1)  with w1 | ⟨w1, w1_0, w1_1⟩ <;> rw [w1, zbs]
  · refine zok_t (by decide) ?_
    have q7 := li_m1
    exact zok_some ⟨(show (-1 : Int) ≤ (((-1) : Int32)).toInt ∧ (((-1) : Int32)).toInt ≤ 1500 from ⟨by omega, by omega⟩), h_s0, g_s0⟩
  · have q2 := li_0
    have q3 := tr v1
    have q4 : ((0 : Int32)).toInt ≤ (v1).toInt := w1_0
    have q5 : (0 : Int) ≤ ((zI s0 1)).toInt ∧ ((zI s0 1)).toInt ≤ 1500 := (h_s0).1 1
    have q6 : (v1).toInt ≤ ((zI s0 1)).toInt := w1_1
    refine zok_f (by decide) ?_
    exact zok_some ⟨(show (-1 : Int) ≤ (v1).toInt ∧ (v1).toInt ≤ 1500 from ⟨by omega, by omega⟩), (IS.pI 1 v1 h_s0 (show (0 : Int) ≤ (v1).toInt ∧ (v1).toInt ≤ 1500 from ⟨by omega, by omega⟩)), (Fr.pI g_s0 rfl)⟩
theorem t_CH_end (N : Nat) (hN : 50000000 ≤ N) (s0 : zSt) (v1 : Int32) (h_s0 : I_CH s0) : zok (CH_end N s0 v1) (fun z => ((-1 : Int) ≤ (z.1).toInt ∧ (z.1).toInt ≤ 1500) ∧ I_CH z.2 ∧ Fr [1] [] z.2 s0) :=
  t_CH_end_b0 N hN s0 v1 s0 h_s0 ⟨fun _ _ => rfl, fun _ _ => rfl⟩
theorem t_CH_fault_b0 (N : Nat) (hN : 50000000 ≤ N) (s0 : zSt) (s1 : zSt) (v1 : Int32) (h_s0 : I_CH s0) (h_s1 : I_Teller s1) : zok (CH_fault_b0 N s0 s1 v1) (fun z => True) := by
  rw [CH_fault_b0]
  have q2 := tr v1
  have q3 := li_0
  refine zok_ite (fun c1 => ?_) (fun c1 => ?_)
  · have q4 : (v1).toInt = ((0 : Int32)).toInt := teq c1
    exact zok_some trivial
  · have q5 : (v1).toInt ≠ ((0 : Int32)).toInt := tneq c1
    have q7 := li_1
    refine zok_ite (fun c6 => ?_) (fun c6 => ?_)
    · have q8 : (v1).toInt = ((1 : Int32)).toInt := teq c6
      exact zok_some trivial
    · have q9 : (v1).toInt ≠ ((1 : Int32)).toInt := tneq c6
      exact zok_some trivial
theorem t_CH_fault (N : Nat) (hN : 50000000 ≤ N) (s0 : zSt) (s1 : zSt) (v1 : Int32) (h_s0 : I_CH s0) (h_s1 : I_Teller s1) : zok (CH_fault N s0 s1 v1) (fun z => True) :=
  t_CH_fault_b0 N hN s0 s1 v1  h_s0 h_s1 
theorem t_CH_bell_b0 (N : Nat) (hN : 50000000 ≤ N) (s0 : zSt) (s1 : zSt) (s2 : zSt) (v1 : Int32) (v2 : Int32) (h_s0 : I_CH s0) (h_s1 : I_Valley s1) (h_s2 : I_Earnest s2) : zok (CH_bell_b0 N s0 s1 s2 v1 v2) (fun z => True) := by
  rw [CH_bell_b0]
  rcases u_Valley_hasBell N s1 v1  with w1 | ⟨w1, w1_0, w1_1⟩ <;> rw [w1, zbs]
  · refine zok_t (by decide) ?_
    exact zok_some trivial
  · have q2 := li_0
    have q3 := tr v1
    have q4 : ((0 : Int32)).toInt ≤ (v1).toInt := w1_0
    have q5 : (0 : Int) ≤ ((zI s1 3)).toInt ∧ ((zI s1 3)).toInt ≤ 11 := (h_s1).1 3
    have q6 := li_1
    have q7 := tsub (zI s1 3) (1 : Int32) (by omega) (by omega)
    have q8 : (v1).toInt ≤ (((zI s1 3) - (1 : Int32))).toInt := w1_1
    refine zok_f (by decide) ?_
    have q10 := tr v2
    refine zok_ite (fun c9 => ?_) (fun c9 => ?_)
    · have q11 : (v2).toInt = ((0 : Int32)).toInt := teq c9
      refine zok_bind (t_Earnest_toneOf N hN s2 s1 v1 h_s2 h_s1 (show (0 : Int) ≤ (v1).toInt ∧ (v1).toInt ≤ 10 from ⟨by omega, by omega⟩)) (fun z5 hz5 => ?_)
      have h_z5 := hz5
      exact zok_some trivial
    · have q12 : (v2).toInt ≠ ((0 : Int32)).toInt := tneq c9
      refine zok_ite (fun c13 => ?_) (fun c13 => ?_)
      · have q14 : (v2).toInt = ((1 : Int32)).toInt := teq c13
        refine zok_ck (show vp_in v1 11 from vin (by omega) (by omega)) ?_
        exact zok_some trivial
      · have q15 : (v2).toInt ≠ ((1 : Int32)).toInt := tneq c13
        have q17 := li_2
        refine zok_ite (fun c16 => ?_) (fun c16 => ?_)
        · have q18 : (v2).toInt = ((2 : Int32)).toInt := teq c16
          refine zok_ck (show vp_in v1 11 from vin (by omega) (by omega)) ?_
          exact zok_some trivial
        · have q19 : (v2).toInt ≠ ((2 : Int32)).toInt := tneq c16
          have q21 := li_3
          refine zok_ite (fun c20 => ?_) (fun c20 => ?_)
          · have q22 : (v2).toInt = ((3 : Int32)).toInt := teq c20
            refine zok_ck (show vp_in v1 11 from vin (by omega) (by omega)) ?_
            exact zok_some trivial
          · have q23 : (v2).toInt ≠ ((3 : Int32)).toInt := tneq c20
            have q25 := li_4
            refine zok_ite (fun c24 => ?_) (fun c24 => ?_)
            · have q26 : (v2).toInt = ((4 : Int32)).toInt := teq c24
              exact zok_some trivial
            · have q27 : (v2).toInt ≠ ((4 : Int32)).toInt := tneq c24
              have q29 := li_5
              refine zok_ite (fun c28 => ?_) (fun c28 => ?_)
              · have q30 : (v2).toInt = ((5 : Int32)).toInt := teq c28
                exact zok_some trivial
              · have q31 : (v2).toInt ≠ ((5 : Int32)).toInt := tneq c28
                exact zok_some trivial
theorem t_CH_bell (N : Nat) (hN : 50000000 ≤ N) (s0 : zSt) (s1 : zSt) (s2 : zSt) (v1 : Int32) (v2 : Int32) (h_s0 : I_CH s0) (h_s1 : I_Valley s1) (h_s2 : I_Earnest s2) : zok (CH_bell N s0 s1 s2 v1 v2) (fun z => True) :=
  t_CH_bell_b0 N hN s0 s1 s2 v1 v2  h_s0 h_s1 h_s2 
theorem t_CH_hear_b0 (N : Nat) (hN : 50000000 ≤ N) (s0 : zSt) (s1 : zSt) (s2 : zSt) (v1 : Int32) (v2 : Int32) (h_s0 : I_CH s0) (h_s1 : I_Valley s1) (h_s2 : I_Earnest s2) : zok (CH_hear_b0 N s0 s1 s2 v1 v2) (fun z => True) := by
  rw [CH_hear_b0]
  rcases u_Valley_hasEar N s1 v1  with w1 | ⟨w1, w1_0, w1_1⟩ <;> rw [w1, zbs]
  · refine zok_t (by decide) ?_
    exact zok_some trivial
  · have q2 := li_0
    have q3 := tr v1
    have q4 : ((0 : Int32)).toInt ≤ (v1).toInt := w1_0
    have q5 : (0 : Int) ≤ ((zI s1 12)).toInt ∧ ((zI s1 12)).toInt ≤ 4 := (h_s1).1 12
    have q6 := li_1
    have q7 := tsub (zI s1 12) (1 : Int32) (by omega) (by omega)
    have q8 : (v1).toInt ≤ (((zI s1 12) - (1 : Int32))).toInt := w1_1
    refine zok_f (by decide) ?_
    rcases u_CH_within N v2 (0 : Int32) (11 : Int32)  with w9 | ⟨w9, w9_0, w9_1⟩ <;> rw [w9, zbs]
    · refine zok_t (by decide) ?_
      exact zok_some trivial
    · have q10 := tr v2
      have q11 : ((0 : Int32)).toInt ≤ (v2).toInt := w9_0
      have q12 := li_11
      have q13 : (v2).toInt ≤ ((11 : Int32)).toInt := w9_1
      refine zok_f (by decide) ?_
      refine zok_bind (t_Earnest_loudness N hN s2 s1 v1 v2 h_s2 h_s1 (show (0 : Int) ≤ (v1).toInt ∧ (v1).toInt ≤ 3 from ⟨by omega, by omega⟩) (show (0 : Int) ≤ (v2).toInt ∧ (v2).toInt ≤ 11 from ⟨by omega, by omega⟩)) (fun z7 hz7 => ?_)
      have h_z7 := hz7
      exact zok_some trivial
theorem t_CH_hear (N : Nat) (hN : 50000000 ≤ N) (s0 : zSt) (s1 : zSt) (s2 : zSt) (v1 : Int32) (v2 : Int32) (h_s0 : I_CH s0) (h_s1 : I_Valley s1) (h_s2 : I_Earnest s2) : zok (CH_hear N s0 s1 s2 v1 v2) (fun z => True) :=
  t_CH_hear_b0 N hN s0 s1 s2 v1 v2  h_s0 h_s1 h_s2 
theorem t_CH_chord_b45 (N : Nat) (hN : 50000000 ≤ N) (kh17 : Int32 → Int32 → Option (Int32)) (m17 : Int) (s0 : zSt) (s1 : zSt) (s2 : zSt) (v1 : Int32) (v2 : Int32) (v3 : Int32) (hkh17 : ∀ (v2 : Int32) (v3 : Int32), (0 : Int) ≤ (v2).toInt ∧ (v2).toInt ≤ 4095 → (0 : Int) ≤ (v3).toInt ∧ (v3).toInt ≤ 12 → 13 - (v3).toInt ≤ m17 - 1 → zok (kh17 v2 v3) (fun z => ((-1 : Int) ≤ (z).toInt ∧ (z).toInt ≤ 4095))) (h_s0 : I_CH s0) (h_s1 : I_Valley s1) (h_s2 : I_Earnest s2) (h_v1 : (0 : Int) ≤ (v1).toInt ∧ (v1).toInt ≤ 3) (h_v2 : (0 : Int) ≤ (v2).toInt ∧ (v2).toInt ≤ 4095) (h_v3 : (0 : Int) ≤ (v3).toInt ∧ (v3).toInt ≤ 11) (hm17 : 13 - (v3).toInt ≤ m17) : zok (CH_chord_b45 N kh17 s0 s1 s2 v1 v2 v3) (fun z => ((-1 : Int) ≤ (z).toInt ∧ (z).toInt ≤ 4095)) := by
  rw [CH_chord_b45]
  have q1 := li_1
  have q2 := tadd v3 (1 : Int32) (by omega) (by omega)
  exact hkh17 _ _ (show (0 : Int) ≤ (v2).toInt ∧ (v2).toInt ≤ 4095 from ⟨by omega, by omega⟩) (show (0 : Int) ≤ ((v3 + (1 : Int32))).toInt ∧ ((v3 + (1 : Int32))).toInt ≤ 12 from ⟨by omega, by omega⟩) (show 13 - ((v3 + (1 : Int32))).toInt ≤ m17 - 1 by omega)
theorem t_CH_chord_b17 (N : Nat) (hN : 50000000 ≤ N) (kh17 : Int32 → Int32 → Option (Int32)) (m17 : Int) (s0 : zSt) (s1 : zSt) (s2 : zSt) (v1 : Int32) (v2 : Int32) (v3 : Int32) (hkh17 : ∀ (v2 : Int32) (v3 : Int32), (0 : Int) ≤ (v2).toInt ∧ (v2).toInt ≤ 4095 → (0 : Int) ≤ (v3).toInt ∧ (v3).toInt ≤ 12 → 13 - (v3).toInt ≤ m17 - 1 → zok (kh17 v2 v3) (fun z => ((-1 : Int) ≤ (z).toInt ∧ (z).toInt ≤ 4095))) (h_s0 : I_CH s0) (h_s1 : I_Valley s1) (h_s2 : I_Earnest s2) (h_v1 : (0 : Int) ≤ (v1).toInt ∧ (v1).toInt ≤ 3) (h_v2 : (0 : Int) ≤ (v2).toInt ∧ (v2).toInt ≤ 4095) (h_v3 : (0 : Int) ≤ (v3).toInt ∧ (v3).toInt ≤ 12) (hm17 : 13 - (v3).toInt ≤ m17) : zok (CH_chord_b17 N kh17 s0 s1 s2 v1 v2 v3) (fun z => ((-1 : Int) ≤ (z).toInt ∧ (z).toInt ≤ 4095)) := by
  rw [CH_chord_b17]
  have q2 := li_12
  refine zok_ite (fun c1 => ?_) (fun c1 => ?_)
  · have q3 : ((12 : Int32)).toInt ≤ (v3).toInt := tle c1
    exact zok_some (show (-1 : Int) ≤ (v2).toInt ∧ (v2).toInt ≤ 4095 from ⟨by omega, by omega⟩)
  · have q4 : ((12 : Int32)).toInt > (v3).toInt := tnle c1
    refine zok_bind (t_Earnest_loudness N hN s2 s1 v1 v3 h_s2 h_s1 (show (0 : Int) ≤ (v1).toInt ∧ (v1).toInt ≤ 3 from ⟨by omega, by omega⟩) (show (0 : Int) ≤ (v3).toInt ∧ (v3).toInt ≤ 11 from ⟨by omega, by omega⟩)) (fun z2 hz2 => ?_)
    have h_z2 := hz2
    have q6 := tr z2
    have q7 := li_0
    refine zok_ite (fun c5 => ?_) (fun c5 => ?_)
    · have q8 : (z2).toInt ≤ ((0 : Int32)).toInt := tle c5
      exact t_CH_chord_b45 N hN kh17 m17 _ _ _ _ _ _  hkh17 h_s0 h_s1 h_s2 (show (0 : Int) ≤ (v1).toInt ∧ (v1).toInt ≤ 3 from ⟨by omega, by omega⟩) (show (0 : Int) ≤ (v2).toInt ∧ (v2).toInt ≤ 4095 from ⟨by omega, by omega⟩) (show (0 : Int) ≤ (v3).toInt ∧ (v3).toInt ≤ 11 from ⟨by omega, by omega⟩) (show 13 - (v3).toInt ≤ m17 from by omega)
    · have q9 : (z2).toInt > ((0 : Int32)).toInt := tnle c5
      have q10 := tshl v3 11 (by decide) (by omega) (by omega)
      have q11 := tor v2 ((1 : Int32) <<< (v3 &&& (31 : Int32))) 12 (by decide) (by omega) (by omega) (by omega) (by omega)
      exact t_CH_chord_b45 N hN kh17 m17 _ _ _ _ _ _  hkh17 h_s0 h_s1 h_s2 (show (0 : Int) ≤ (v1).toInt ∧ (v1).toInt ≤ 3 from ⟨by omega, by omega⟩) (show (0 : Int) ≤ ((v2 ||| ((1 : Int32) <<< (v3 &&& (31 : Int32))))).toInt ∧ ((v2 ||| ((1 : Int32) <<< (v3 &&& (31 : Int32))))).toInt ≤ 4095 from ⟨by omega, by omega⟩) (show (0 : Int) ≤ (v3).toInt ∧ (v3).toInt ≤ 11 from ⟨by omega, by omega⟩) (show 13 - (v3).toInt ≤ m17 from by omega)
theorem t_CH_chord_h17 (N : Nat) (hN : 50000000 ≤ N) (s0 : zSt) (s1 : zSt) (s2 : zSt) (v1 : Int32) (h_s0 : I_CH s0) (h_s1 : I_Valley s1) (h_s2 : I_Earnest s2) (h_v1 : (0 : Int) ≤ (v1).toInt ∧ (v1).toInt ≤ 3) : ∀ (n : Nat) (v2 : Int32) (v3 : Int32), (0 : Int) ≤ (v2).toInt ∧ (v2).toInt ≤ 4095 → (0 : Int) ≤ (v3).toInt ∧ (v3).toInt ≤ 12 → 13 - (v3).toInt ≤ (n : Int) → zok (CH_chord_h17 N s0 s1 s2 v1 n v2 v3) (fun z => ((-1 : Int) ≤ (z).toInt ∧ (z).toInt ≤ 4095))
  | 0, v2, v3, h_v2, h_v3, hm => absurd hm (by omega)
  | n + 1, v2, v3, h_v2, h_v3, hm => by
    rw [CH_chord_h17_s]
    exact t_CH_chord_b17 N hN (CH_chord_h17 N s0 s1 s2 v1 n) ((n + 1 : Nat) : Int) s0 s1 s2 v1 v2 v3  (fun v2 v3 h_v2 h_v3 q => t_CH_chord_h17 N hN  s0 s1 s2 v1   h_s0 h_s1 h_s2 h_v1   n v2 v3 h_v2 h_v3 (by omega)) h_s0 h_s1 h_s2 h_v1 h_v2 h_v3  hm
theorem t_CH_chord_b0 (N : Nat) (hN : 50000000 ≤ N) (s0 : zSt) (s1 : zSt) (s2 : zSt) (v1 : Int32) (h_s0 : I_CH s0) (h_s1 : I_Valley s1) (h_s2 : I_Earnest s2) : zok (CH_chord_b0 N s0 s1 s2 v1) (fun z => ((-1 : Int) ≤ (z).toInt ∧ (z).toInt ≤ 4095)) := by
  rw [CH_chord_b0]
  rcases u_Valley_hasEar N s1 v1  with w1 | ⟨w1, w1_0, w1_1⟩ <;> rw [w1, zbs]
  · refine zok_t (by decide) ?_
    have q9 := li_m1
    exact zok_some (show (-1 : Int) ≤ (((-1) : Int32)).toInt ∧ (((-1) : Int32)).toInt ≤ 4095 from ⟨by omega, by omega⟩)
  · have q2 := li_0
    have q3 := tr v1
    have q4 : ((0 : Int32)).toInt ≤ (v1).toInt := w1_0
    have q5 : (0 : Int) ≤ ((zI s1 12)).toInt ∧ ((zI s1 12)).toInt ≤ 4 := (h_s1).1 12
    have q6 := li_1
    have q7 := tsub (zI s1 12) (1 : Int32) (by omega) (by omega)
    have q8 : (v1).toInt ≤ (((zI s1 12) - (1 : Int32))).toInt := w1_1
    refine zok_f (by decide) ?_
    exact t_CH_chord_h17 N hN  _ _ _ _   h_s0 h_s1 h_s2 (show (0 : Int) ≤ (v1).toInt ∧ (v1).toInt ≤ 3 from ⟨by omega, by omega⟩)  N _ _ (show (0 : Int) ≤ ((0 : Int32)).toInt ∧ ((0 : Int32)).toInt ≤ 4095 from ⟨by omega, by omega⟩) (show (0 : Int) ≤ ((0 : Int32)).toInt ∧ ((0 : Int32)).toInt ≤ 12 from ⟨by omega, by omega⟩) (show 13 - ((0 : Int32)).toInt ≤ (N : Int) from by omega)
theorem t_CH_chord (N : Nat) (hN : 50000000 ≤ N) (s0 : zSt) (s1 : zSt) (s2 : zSt) (v1 : Int32) (h_s0 : I_CH s0) (h_s1 : I_Valley s1) (h_s2 : I_Earnest s2) : zok (CH_chord N s0 s1 s2 v1) (fun z => ((-1 : Int) ≤ (z).toInt ∧ (z).toInt ≤ 4095)) :=
  t_CH_chord_b0 N hN s0 s1 s2 v1  h_s0 h_s1 h_s2 
theorem t_CH_comes_b0 (N : Nat) (hN : 50000000 ≤ N) (s0 : zSt) (s1 : zSt) (s2 : zSt) (v1 : Int32) (v2 : Int32) (gs2 : zSt) (h_s0 : I_CH s0) (h_s1 : I_Valley s1) (h_s2 : I_Earnest s2) (h_v2 : (0 : Int) ≤ (v2).toInt ∧ (v2).toInt ≤ 1) (g_s2 : Fr [0, 1] [] s2 gs2) : zok (CH_comes_b0 N s0 s1 s2 v1 v2) (fun z => ((0 : Int) ≤ (z.1).toInt ∧ (z.1).toInt ≤ 1) ∧ I_Earnest z.2 ∧ Fr [0, 1] [] z.2 gs2) := by
  rw [CH_comes_b0]
  rcases u_Valley_hasBell N s1 v1  with w1 | ⟨w1, w1_0, w1_1⟩ <;> rw [w1, zbs]
  · refine zok_t (by decide) ?_
    have q9 := li_0
    exact zok_some ⟨(show (0 : Int) ≤ ((0 : Int32)).toInt ∧ ((0 : Int32)).toInt ≤ 1 from ⟨by omega, by omega⟩), h_s2, g_s2⟩
  · have q2 := li_0
    have q3 := tr v1
    have q4 : ((0 : Int32)).toInt ≤ (v1).toInt := w1_0
    have q5 : (0 : Int) ≤ ((zI s1 3)).toInt ∧ ((zI s1 3)).toInt ≤ 11 := (h_s1).1 3
    have q6 := li_1
    have q7 := tsub (zI s1 3) (1 : Int32) (by omega) (by omega)
    have q8 : (v1).toInt ≤ (((zI s1 3) - (1 : Int32))).toInt := w1_1
    refine zok_f (by decide) ?_
    refine zok_bind (t_Earnest_isThere N hN s2 v1 h_s2 (show (0 : Int) ≤ (v1).toInt ∧ (v1).toInt ≤ 10 from ⟨by omega, by omega⟩)) (fun z4 hz4 => ?_)
    have h_z4 := hz4
    refine zok_ite (fun c10 => ?_) (fun c10 => ?_)
    · have q11 : (z4).toInt = (v2).toInt := teq c10
      exact zok_some ⟨(show (0 : Int) ≤ ((0 : Int32)).toInt ∧ ((0 : Int32)).toInt ≤ 1 from ⟨by omega, by omega⟩), h_s2, g_s2⟩
    · have q12 : (z4).toInt ≠ (v2).toInt := tneq c10
      exact zok_some ⟨(show (0 : Int) ≤ ((1 : Int32)).toInt ∧ ((1 : Int32)).toInt ≤ 1 from ⟨by omega, by omega⟩), (IS.pI 1 ((zI s2 1) &&& ((zI s2 0) ^^^ ((1 : Int32) <<< (v1 &&& (31 : Int32))))) (IS.pI 0 ((zI s2 0) ^^^ ((1 : Int32) <<< (v1 &&& (31 : Int32)))) h_s2 (tr _)) (tr _)), (Fr.pI (Fr.pI g_s2 rfl) rfl)⟩
theorem t_CH_comes (N : Nat) (hN : 50000000 ≤ N) (s0 : zSt) (s1 : zSt) (s2 : zSt) (v1 : Int32) (v2 : Int32) (h_s0 : I_CH s0) (h_s1 : I_Valley s1) (h_s2 : I_Earnest s2) (h_v2 : (0 : Int) ≤ (v2).toInt ∧ (v2).toInt ≤ 1) : zok (CH_comes N s0 s1 s2 v1 v2) (fun z => ((0 : Int) ≤ (z.1).toInt ∧ (z.1).toInt ≤ 1) ∧ I_Earnest z.2 ∧ Fr [0, 1] [] z.2 s2) :=
  t_CH_comes_b0 N hN s0 s1 s2 v1 v2 s2 h_s0 h_s1 h_s2 h_v2 ⟨fun _ _ => rfl, fun _ _ => rfl⟩
theorem t_CH_stand_b0 (N : Nat) (hN : 50000000 ≤ N) (s0 : zSt) (s1 : zSt) (s2 : zSt) (v1 : Int32) (v2 : Int32) (gs2 : zSt) (h_s0 : I_CH s0) (h_s1 : I_Valley s1) (h_s2 : I_Earnest s2) (h_v2 : (0 : Int) ≤ (v2).toInt ∧ (v2).toInt ≤ 1) (g_s2 : Fr [1] [] s2 gs2) : zok (CH_stand_b0 N s0 s1 s2 v1 v2) (fun z => ((0 : Int) ≤ (z.1).toInt ∧ (z.1).toInt ≤ 1) ∧ I_Earnest z.2 ∧ Fr [1] [] z.2 gs2) := by
  rw [CH_stand_b0]
  rcases u_Valley_hasBell N s1 v1  with w1 | ⟨w1, w1_0, w1_1⟩ <;> rw [w1, zbs]
  · refine zok_t (by decide) ?_
    have q9 := li_0
    exact zok_some ⟨(show (0 : Int) ≤ ((0 : Int32)).toInt ∧ ((0 : Int32)).toInt ≤ 1 from ⟨by omega, by omega⟩), h_s2, g_s2⟩
  · have q2 := li_0
    have q3 := tr v1
    have q4 : ((0 : Int32)).toInt ≤ (v1).toInt := w1_0
    have q5 : (0 : Int) ≤ ((zI s1 3)).toInt ∧ ((zI s1 3)).toInt ≤ 11 := (h_s1).1 3
    have q6 := li_1
    have q7 := tsub (zI s1 3) (1 : Int32) (by omega) (by omega)
    have q8 : (v1).toInt ≤ (((zI s1 3) - (1 : Int32))).toInt := w1_1
    refine zok_f (by decide) ?_
    refine zok_bind (t_Earnest_isThere N hN s2 v1 h_s2 (show (0 : Int) ≤ (v1).toInt ∧ (v1).toInt ≤ 10 from ⟨by omega, by omega⟩)) (fun z4 hz4 => ?_)
    have h_z4 := hz4
    refine zok_ite (fun c10 => ?_) (fun c10 => ?_)
    · have q11 : (z4).toInt = ((0 : Int32)).toInt := teq c10
      exact zok_some ⟨(show (0 : Int) ≤ ((0 : Int32)).toInt ∧ ((0 : Int32)).toInt ≤ 1 from ⟨by omega, by omega⟩), h_s2, g_s2⟩
    · have q12 : (z4).toInt ≠ ((0 : Int32)).toInt := tneq c10
      refine zok_bind (t_Earnest_isStanding N hN s2 v1 h_s2 (show (0 : Int) ≤ (v1).toInt ∧ (v1).toInt ≤ 10 from ⟨by omega, by omega⟩)) (fun z7 hz7 => ?_)
      have h_z7 := hz7
      refine zok_ite (fun c13 => ?_) (fun c13 => ?_)
      · have q14 : (z7).toInt = (v2).toInt := teq c13
        exact zok_some ⟨(show (0 : Int) ≤ ((0 : Int32)).toInt ∧ ((0 : Int32)).toInt ≤ 1 from ⟨by omega, by omega⟩), h_s2, g_s2⟩
      · have q15 : (z7).toInt ≠ (v2).toInt := tneq c13
        exact zok_some ⟨(show (0 : Int) ≤ ((1 : Int32)).toInt ∧ ((1 : Int32)).toInt ≤ 1 from ⟨by omega, by omega⟩), (IS.pI 1 ((zI s2 1) ^^^ ((1 : Int32) <<< (v1 &&& (31 : Int32)))) h_s2 (tr _)), (Fr.pI g_s2 rfl)⟩
theorem t_CH_stand (N : Nat) (hN : 50000000 ≤ N) (s0 : zSt) (s1 : zSt) (s2 : zSt) (v1 : Int32) (v2 : Int32) (h_s0 : I_CH s0) (h_s1 : I_Valley s1) (h_s2 : I_Earnest s2) (h_v2 : (0 : Int) ≤ (v2).toInt ∧ (v2).toInt ≤ 1) : zok (CH_stand N s0 s1 s2 v1 v2) (fun z => ((0 : Int) ≤ (z.1).toInt ∧ (z.1).toInt ≤ 1) ∧ I_Earnest z.2 ∧ Fr [1] [] z.2 s2) :=
  t_CH_stand_b0 N hN s0 s1 s2 v1 v2 s2 h_s0 h_s1 h_s2 h_v2 ⟨fun _ _ => rfl, fun _ _ => rfl⟩
theorem t_CH_isPlace_b0 (N : Nat) (hN : 50000000 ≤ N) (v0 : Int32) : zok (CH_isPlace_b0 N v0) (fun z => ((0 : Int) ≤ (z).toInt ∧ (z).toInt ≤ 1)) := by
  rw [CH_isPlace_b0]
  rcases u_CH_within N v0 (0 : Int32) (99 : Int32)  with w1 | ⟨w1, w1_0, w1_1⟩ <;> rw [w1, zbs]
  · refine zok_cb (by decide) ?_
    have q7 := li_0
    exact zok_some (show (0 : Int) ≤ ((0 : Int32)).toInt ∧ ((0 : Int32)).toInt ≤ 1 from ⟨by omega, by omega⟩)
  · have q2 := li_0
    have q3 := tr v0
    have q4 : ((0 : Int32)).toInt ≤ (v0).toInt := w1_0
    have q5 := li_99
    have q6 : (v0).toInt ≤ ((99 : Int32)).toInt := w1_1
    refine zok_cb (by decide) ?_
    have q8 := li_1
    exact zok_some (show (0 : Int) ≤ ((1 : Int32)).toInt ∧ ((1 : Int32)).toInt ≤ 1 from ⟨by omega, by omega⟩)
theorem t_CH_isPlace (N : Nat) (hN : 50000000 ≤ N) (v0 : Int32) : zok (CH_isPlace N v0) (fun z => ((0 : Int) ≤ (z).toInt ∧ (z).toInt ≤ 1)) :=
  t_CH_isPlace_b0 N hN v0   
theorem t_CH_isWind_b0 (N : Nat) (hN : 50000000 ≤ N) (v0 : Int32) : zok (CH_isWind_b0 N v0) (fun z => ((0 : Int) ≤ (z).toInt ∧ (z).toInt ≤ 1)) := by
  rw [CH_isWind_b0]
  rcases u_CH_within N v0 (0 : Int32) (20 : Int32)  with w1 | ⟨w1, w1_0, w1_1⟩ <;> rw [w1, zbs]
  · refine zok_cb (by decide) ?_
    have q7 := li_0
    exact zok_some (show (0 : Int) ≤ ((0 : Int32)).toInt ∧ ((0 : Int32)).toInt ≤ 1 from ⟨by omega, by omega⟩)
  · have q2 := li_0
    have q3 := tr v0
    have q4 : ((0 : Int32)).toInt ≤ (v0).toInt := w1_0
    have q5 := li_20
    have q6 : (v0).toInt ≤ ((20 : Int32)).toInt := w1_1
    refine zok_cb (by decide) ?_
    have q8 := li_1
    exact zok_some (show (0 : Int) ≤ ((1 : Int32)).toInt ∧ ((1 : Int32)).toInt ≤ 1 from ⟨by omega, by omega⟩)
theorem t_CH_isWind (N : Nat) (hN : 50000000 ≤ N) (v0 : Int32) : zok (CH_isWind N v0) (fun z => ((0 : Int) ≤ (z).toInt ∧ (z).toInt ≤ 1)) :=
  t_CH_isWind_b0 N hN v0   
theorem t_CH_walk_b0 (N : Nat) (hN : 50000000 ≤ N) (s0 : zSt) (s1 : zSt) (v1 : Int32) (v2 : Int32) (gs1 : zSt) (h_s0 : I_CH s0) (h_s1 : I_Earnest s1) (g_s1 : Fr [2, 3] [] s1 gs1) : zok (CH_walk_b0 N s0 s1 v1 v2) (fun z => ((-1 : Int) ≤ (z.1).toInt ∧ (z.1).toInt ≤ 99) ∧ I_Earnest z.2 ∧ Fr [2, 3] [] z.2 gs1) := by
  rw [CH_walk_b0]
  rcases u_CH_isPlace N v1  with w1 | ⟨w1, w1_0, w1_1⟩ <;> rw [w1, zbs]
  · refine zok_t (by decide) ?_
    have q7 := li_m1
    exact zok_some ⟨(show (-1 : Int) ≤ (((-1) : Int32)).toInt ∧ (((-1) : Int32)).toInt ≤ 99 from ⟨by omega, by omega⟩), h_s1, g_s1⟩
  · have q2 := li_0
    have q3 := tr v1
    have q4 : ((0 : Int32)).toInt ≤ (v1).toInt := w1_0
    have q5 := li_99
    have q6 : (v1).toInt ≤ ((99 : Int32)).toInt := w1_1
    refine zok_f (by decide) ?_
    rcases u_CH_isWind N v2  with w8 | ⟨w8, w8_0, w8_1⟩ <;> rw [w8, zbs]
    · refine zok_t (by decide) ?_
      have q13 := li_m1
      exact zok_some ⟨(show (-1 : Int) ≤ (((-1) : Int32)).toInt ∧ (((-1) : Int32)).toInt ≤ 99 from ⟨by omega, by omega⟩), h_s1, g_s1⟩
    · have q9 := tr v2
      have q10 : ((0 : Int32)).toInt ≤ (v2).toInt := w8_0
      have q11 := li_20
      have q12 : (v2).toInt ≤ ((20 : Int32)).toInt := w8_1
      refine zok_f (by decide) ?_
      have q14 : (0 : Int) ≤ ((zI s1 2)).toInt ∧ ((zI s1 2)).toInt ≤ 99 := (h_s1).1 2
      exact zok_some ⟨(show (-1 : Int) ≤ ((zI s1 2)).toInt ∧ ((zI s1 2)).toInt ≤ 99 from ⟨by omega, by omega⟩), (IS.pI 3 v2 (IS.pI 2 v1 h_s1 (show (0 : Int) ≤ (v1).toInt ∧ (v1).toInt ≤ 99 from ⟨by omega, by omega⟩)) (show (0 : Int) ≤ (v2).toInt ∧ (v2).toInt ≤ 20 from ⟨by omega, by omega⟩)), (Fr.pI (Fr.pI g_s1 rfl) rfl)⟩
theorem t_CH_walk (N : Nat) (hN : 50000000 ≤ N) (s0 : zSt) (s1 : zSt) (v1 : Int32) (v2 : Int32) (h_s0 : I_CH s0) (h_s1 : I_Earnest s1) : zok (CH_walk N s0 s1 v1 v2) (fun z => ((-1 : Int) ≤ (z.1).toInt ∧ (z.1).toInt ≤ 99) ∧ I_Earnest z.2 ∧ Fr [2, 3] [] z.2 s1) :=
  t_CH_walk_b0 N hN s0 s1 v1 v2 s1 h_s0 h_s1 ⟨fun _ _ => rfl, fun _ _ => rfl⟩
theorem t_CH_crack_b0 (N : Nat) (hN : 50000000 ≤ N) (s0 : zSt) (s1 : zSt) (s2 : zSt) (v1 : Int32) (v2 : Int32) (gs2 : zSt) (h_s0 : I_CH s0) (h_s1 : I_Valley s1) (h_s2 : I_Earnest s2) (g_s2 : Fr [] [5] s2 gs2) : zok (CH_crack_b0 N s0 s1 s2 v1 v2) (fun z => ((-1 : Int) ≤ (z.1).toInt ∧ (z.1).toInt ≤ 2) ∧ I_Earnest z.2 ∧ Fr [] [5] z.2 gs2) := by
  rw [CH_crack_b0]
  rcases u_Valley_hasBell N s1 v1  with w1 | ⟨w1, w1_0, w1_1⟩ <;> rw [w1, zbs]
  · refine zok_t (by decide) ?_
    have q9 := li_m1
    exact zok_some ⟨(show (-1 : Int) ≤ (((-1) : Int32)).toInt ∧ (((-1) : Int32)).toInt ≤ 2 from ⟨by omega, by omega⟩), h_s2, g_s2⟩
  · have q2 := li_0
    have q3 := tr v1
    have q4 : ((0 : Int32)).toInt ≤ (v1).toInt := w1_0
    have q5 : (0 : Int) ≤ ((zI s1 3)).toInt ∧ ((zI s1 3)).toInt ≤ 11 := (h_s1).1 3
    have q6 := li_1
    have q7 := tsub (zI s1 3) (1 : Int32) (by omega) (by omega)
    have q8 : (v1).toInt ≤ (((zI s1 3) - (1 : Int32))).toInt := w1_1
    refine zok_f (by decide) ?_
    rcases u_CH_within N v2 (0 : Int32) (2 : Int32)  with w10 | ⟨w10, w10_0, w10_1⟩ <;> rw [w10, zbs]
    · refine zok_t (by decide) ?_
      have q15 := li_m1
      exact zok_some ⟨(show (-1 : Int) ≤ (((-1) : Int32)).toInt ∧ (((-1) : Int32)).toInt ≤ 2 from ⟨by omega, by omega⟩), h_s2, g_s2⟩
    · have q11 := tr v2
      have q12 : ((0 : Int32)).toInt ≤ (v2).toInt := w10_0
      have q13 := li_2
      have q14 : (v2).toInt ≤ ((2 : Int32)).toInt := w10_1
      refine zok_f (by decide) ?_
      refine zok_ck (show vp_in v1 11 from vin (by omega) (by omega)) ?_
      refine zok_ck (show vp_in v1 11 from vin (by omega) (by omega)) ?_
      have q16 : (0 : Int) ≤ (((zA s2 5) (Int32.toNatClampNeg v1))).toInt ∧ (((zA s2 5) (Int32.toNatClampNeg v1))).toInt ≤ 2 := (h_s2).2 5 _
      exact zok_some ⟨(show (-1 : Int) ≤ (((zA s2 5) (Int32.toNatClampNeg v1))).toInt ∧ (((zA s2 5) (Int32.toNatClampNeg v1))).toInt ≤ 2 from ⟨by omega, by omega⟩), (IS.sA 5 (upd (zA s2 5) (Int32.toNatClampNeg v1) v2) h_s2 (show ∀ i, (0 : Int) ≤ ((upd (zA s2 5) (Int32.toNatClampNeg v1) v2) i).toInt ∧ ((upd (zA s2 5) (Int32.toNatClampNeg v1) v2) i).toInt ≤ 2 from (rgu (fun i => rgm ((h_s2).2 5 i) (by decide) (by decide)) ⟨by omega, by omega⟩))), (Fr.sA g_s2 rfl)⟩
theorem t_CH_crack (N : Nat) (hN : 50000000 ≤ N) (s0 : zSt) (s1 : zSt) (s2 : zSt) (v1 : Int32) (v2 : Int32) (h_s0 : I_CH s0) (h_s1 : I_Valley s1) (h_s2 : I_Earnest s2) : zok (CH_crack N s0 s1 s2 v1 v2) (fun z => ((-1 : Int) ≤ (z.1).toInt ∧ (z.1).toInt ≤ 2) ∧ I_Earnest z.2 ∧ Fr [] [5] z.2 s2) :=
  t_CH_crack_b0 N hN s0 s1 s2 v1 v2 s2 h_s0 h_s1 h_s2 ⟨fun _ _ => rfl, fun _ _ => rfl⟩
theorem t_CH_years_b0 (N : Nat) (hN : 50000000 ≤ N) (s0 : zSt) (s1 : zSt) (v1 : Int32) (gs1 : zSt) (h_s0 : I_CH s0) (h_s1 : I_Earnest s1) (g_s1 : Fr [4] [] s1 gs1) : zok (CH_years_b0 N s0 s1 v1) (fun z => ((-1 : Int) ≤ (z.1).toInt ∧ (z.1).toInt ≤ 200) ∧ I_Earnest z.2 ∧ Fr [4] [] z.2 gs1) := by
  rw [CH_years_b0]
  rcases u_CH_within N v1 (0 : Int32) (20 : Int32)  with w1 | ⟨w1, w1_0, w1_1⟩ <;> rw [w1, zbs]
  · refine zok_t (by decide) ?_
    have q7 := li_m1
    exact zok_some ⟨(show (-1 : Int) ≤ (((-1) : Int32)).toInt ∧ (((-1) : Int32)).toInt ≤ 200 from ⟨by omega, by omega⟩), h_s1, g_s1⟩
  · have q2 := li_0
    have q3 := tr v1
    have q4 : ((0 : Int32)).toInt ≤ (v1).toInt := w1_0
    have q5 := li_20
    have q6 : (v1).toInt ≤ ((20 : Int32)).toInt := w1_1
    refine zok_f (by decide) ?_
    have q9 : (0 : Int) ≤ ((zI s1 4)).toInt ∧ ((zI s1 4)).toInt ≤ 200 := (h_s1).1 4
    have q10 := tadd (zI s1 4) v1 (by omega) (by omega)
    have q11 := li_200
    refine zok_ite (fun c8 => ?_) (fun c8 => ?_)
    · have q12 : (((zI s1 4) + v1)).toInt ≤ ((200 : Int32)).toInt := tle c8
      exact zok_some ⟨(show (-1 : Int) ≤ (((zI s1 4) + v1)).toInt ∧ (((zI s1 4) + v1)).toInt ≤ 200 from ⟨by omega, by omega⟩), (IS.pI 4 ((zI s1 4) + v1) h_s1 (show (0 : Int) ≤ (((zI s1 4) + v1)).toInt ∧ (((zI s1 4) + v1)).toInt ≤ 200 from ⟨by omega, by omega⟩)), (Fr.pI g_s1 rfl)⟩
    · have q13 : (((zI s1 4) + v1)).toInt > ((200 : Int32)).toInt := tnle c8
      have q14 := li_m1
      exact zok_some ⟨(show (-1 : Int) ≤ (((-1) : Int32)).toInt ∧ (((-1) : Int32)).toInt ≤ 200 from ⟨by omega, by omega⟩), h_s1, g_s1⟩
theorem t_CH_years (N : Nat) (hN : 50000000 ≤ N) (s0 : zSt) (s1 : zSt) (v1 : Int32) (h_s0 : I_CH s0) (h_s1 : I_Earnest s1) : zok (CH_years N s0 s1 v1) (fun z => ((-1 : Int) ≤ (z.1).toInt ∧ (z.1).toInt ≤ 200) ∧ I_Earnest z.2 ∧ Fr [4] [] z.2 s1) :=
  t_CH_years_b0 N hN s0 s1 v1 s1 h_s0 h_s1 ⟨fun _ _ => rfl, fun _ _ => rfl⟩
theorem t_CH_isQuarter_b0 (N : Nat) (hN : 50000000 ≤ N) (v0 : Int32) : zok (CH_isQuarter_b0 N v0) (fun z => ((0 : Int) ≤ (z).toInt ∧ (z).toInt ≤ 1)) := by
  rw [CH_isQuarter_b0]
  rcases u_CH_within N v0 (0 : Int32) (95 : Int32)  with w1 | ⟨w1, w1_0, w1_1⟩ <;> rw [w1, zbs]
  · refine zok_cb (by decide) ?_
    have q7 := li_0
    exact zok_some (show (0 : Int) ≤ ((0 : Int32)).toInt ∧ ((0 : Int32)).toInt ≤ 1 from ⟨by omega, by omega⟩)
  · have q2 := li_0
    have q3 := tr v0
    have q4 : ((0 : Int32)).toInt ≤ (v0).toInt := w1_0
    have q5 := li_95
    have q6 : (v0).toInt ≤ ((95 : Int32)).toInt := w1_1
    refine zok_cb (by decide) ?_
    have q8 := li_1
    exact zok_some (show (0 : Int) ≤ ((1 : Int32)).toInt ∧ ((1 : Int32)).toInt ≤ 1 from ⟨by omega, by omega⟩)
theorem t_CH_isQuarter (N : Nat) (hN : 50000000 ≤ N) (v0 : Int32) : zok (CH_isQuarter N v0) (fun z => ((0 : Int) ≤ (z).toInt ∧ (z).toInt ≤ 1)) :=
  t_CH_isQuarter_b0 N hN v0   
theorem t_CH_sound_b0 (N : Nat) (hN : 50000000 ≤ N) (s0 : zSt) (s1 : zSt) (s2 : zSt) (v1 : Int32) (v2 : Int32) (v3 : Int32) (v4 : Int32) (v5 : Int32) (gs2 : zSt) (h_s0 : I_CH s0) (h_s1 : I_Valley s1) (h_s2 : I_Entries s2) (g_s2 : Fr [0] [1, 2, 3, 4, 5, 6, 7] s2 gs2) : zok (CH_sound_b0 N s0 s1 s2 v1 v2 v3 v4 v5) (fun z => ((-1 : Int) ≤ (z.1).toInt ∧ (z.1).toInt ≤ 39) ∧ I_Entries z.2 ∧ Fr [0] [1, 2, 3, 4, 5, 6, 7] z.2 gs2) := by
  rw [CH_sound_b0]
  rcases u_CH_isQuarter N v1  with w1 | ⟨w1, w1_0, w1_1⟩ <;> rw [w1, zbs]
  · refine zok_t (by decide) ?_
    have q7 := li_m1
    exact zok_some ⟨(show (-1 : Int) ≤ (((-1) : Int32)).toInt ∧ (((-1) : Int32)).toInt ≤ 39 from ⟨by omega, by omega⟩), h_s2, g_s2⟩
  · have q2 := li_0
    have q3 := tr v1
    have q4 : ((0 : Int32)).toInt ≤ (v1).toInt := w1_0
    have q5 := li_95
    have q6 : (v1).toInt ≤ ((95 : Int32)).toInt := w1_1
    refine zok_f (by decide) ?_
    rcases u_Valley_hasEar N s1 v2  with w8 | ⟨w8, w8_0, w8_1⟩ <;> rw [w8, zbs]
    · refine zok_t (by decide) ?_
      have q15 := li_m1
      exact zok_some ⟨(show (-1 : Int) ≤ (((-1) : Int32)).toInt ∧ (((-1) : Int32)).toInt ≤ 39 from ⟨by omega, by omega⟩), h_s2, g_s2⟩
    · have q9 := tr v2
      have q10 : ((0 : Int32)).toInt ≤ (v2).toInt := w8_0
      have q11 : (0 : Int) ≤ ((zI s1 12)).toInt ∧ ((zI s1 12)).toInt ≤ 4 := (h_s1).1 12
      have q12 := li_1
      have q13 := tsub (zI s1 12) (1 : Int32) (by omega) (by omega)
      have q14 : (v2).toInt ≤ (((zI s1 12) - (1 : Int32))).toInt := w8_1
      refine zok_f (by decide) ?_
      rcases u_CH_within N v3 (0 : Int32) (11 : Int32)  with w16 | ⟨w16, w16_0, w16_1⟩ <;> rw [w16, zbs]
      · refine zok_t (by decide) ?_
        have q21 := li_m1
        exact zok_some ⟨(show (-1 : Int) ≤ (((-1) : Int32)).toInt ∧ (((-1) : Int32)).toInt ≤ 39 from ⟨by omega, by omega⟩), h_s2, g_s2⟩
      · have q17 := tr v3
        have q18 : ((0 : Int32)).toInt ≤ (v3).toInt := w16_0
        have q19 := li_11
        have q20 : (v3).toInt ≤ ((11 : Int32)).toInt := w16_1
        refine zok_f (by decide) ?_
        rcases u_CH_within N v4 (0 : Int32) (999 : Int32)  with w22 | ⟨w22, w22_0, w22_1⟩ <;> rw [w22, zbs]
        · refine zok_t (by decide) ?_
          have q27 := li_m1
          exact zok_some ⟨(show (-1 : Int) ≤ (((-1) : Int32)).toInt ∧ (((-1) : Int32)).toInt ≤ 39 from ⟨by omega, by omega⟩), h_s2, g_s2⟩
        · have q23 := tr v4
          have q24 : ((0 : Int32)).toInt ≤ (v4).toInt := w22_0
          have q25 := li_999
          have q26 : (v4).toInt ≤ ((999 : Int32)).toInt := w22_1
          refine zok_f (by decide) ?_
          rcases u_CH_within N v5 v4 (999 : Int32)  with w28 | ⟨w28, w28_0, w28_1⟩ <;> rw [w28, zbs]
          · refine zok_t (by decide) ?_
            have q32 := li_m1
            exact zok_some ⟨(show (-1 : Int) ≤ (((-1) : Int32)).toInt ∧ (((-1) : Int32)).toInt ≤ 39 from ⟨by omega, by omega⟩), h_s2, g_s2⟩
          · have q29 := tr v5
            have q30 : (v4).toInt ≤ (v5).toInt := w28_0
            have q31 : (v5).toInt ≤ ((999 : Int32)).toInt := w28_1
            refine zok_f (by decide) ?_
            have q33 : (0 : Int) ≤ ((zI s0 9)).toInt ∧ ((zI s0 9)).toInt ≤ 100000 := (h_s0).1 9
            refine zok_bind (t_Entries_add N hN s2 v1 v2 v3 v4 v5 (zI s0 9) h_s2 (show (0 : Int) ≤ (v1).toInt ∧ (v1).toInt ≤ 95 from ⟨by omega, by omega⟩) (show (-1 : Int) ≤ (v2).toInt ∧ (v2).toInt ≤ 3 from ⟨by omega, by omega⟩) (show (0 : Int) ≤ (v3).toInt ∧ (v3).toInt ≤ 4095 from ⟨by omega, by omega⟩) (show (0 : Int) ≤ (v4).toInt ∧ (v4).toInt ≤ 999 from ⟨by omega, by omega⟩) (show (0 : Int) ≤ (v5).toInt ∧ (v5).toInt ≤ 999 from ⟨by omega, by omega⟩) (show (0 : Int) ≤ ((zI s0 9)).toInt ∧ ((zI s0 9)).toInt ≤ 100000 from ⟨by omega, by omega⟩)) (fun z16 hz16 => ?_)
            obtain ⟨h_z16_1, h_z16_2, fr_z16_2⟩ := hz16
            exact zok_some ⟨(show (-1 : Int) ≤ (z16.1).toInt ∧ (z16.1).toInt ≤ 39 from ⟨by omega, by omega⟩), h_z16_2, (Fr.tr fr_z16_2 g_s2 rfl rfl)⟩
theorem t_CH_sound (N : Nat) (hN : 50000000 ≤ N) (s0 : zSt) (s1 : zSt) (s2 : zSt) (v1 : Int32) (v2 : Int32) (v3 : Int32) (v4 : Int32) (v5 : Int32) (h_s0 : I_CH s0) (h_s1 : I_Valley s1) (h_s2 : I_Entries s2) : zok (CH_sound N s0 s1 s2 v1 v2 v3 v4 v5) (fun z => ((-1 : Int) ≤ (z.1).toInt ∧ (z.1).toInt ≤ 39) ∧ I_Entries z.2 ∧ Fr [0] [1, 2, 3, 4, 5, 6, 7] z.2 s2) :=
  t_CH_sound_b0 N hN s0 s1 s2 v1 v2 v3 v4 v5 s2 h_s0 h_s1 h_s2 ⟨fun _ _ => rfl, fun _ _ => rfl⟩
theorem t_CH_evening_b0 (N : Nat) (hN : 50000000 ≤ N) (s0 : zSt) (s1 : zSt) (v1 : Int32) (v2 : Int32) (gs1 : zSt) (h_s0 : I_CH s0) (h_s1 : I_Entries s1) (g_s1 : Fr [0] [1, 2, 3, 4, 5, 6, 7] s1 gs1) : zok (CH_evening_b0 N s0 s1 v1 v2) (fun z => ((-1 : Int) ≤ (z.1).toInt ∧ (z.1).toInt ≤ 39) ∧ I_Entries z.2 ∧ Fr [0] [1, 2, 3, 4, 5, 6, 7] z.2 gs1) := by
  rw [CH_evening_b0]
  rcases u_CH_within N v1 (0 : Int32) (20 : Int32)  with w1 | ⟨w1, w1_0, w1_1⟩ <;> rw [w1, zbs]
  · refine zok_t (by decide) ?_
    have q7 := li_m1
    exact zok_some ⟨(show (-1 : Int) ≤ (((-1) : Int32)).toInt ∧ (((-1) : Int32)).toInt ≤ 39 from ⟨by omega, by omega⟩), h_s1, g_s1⟩
  · have q2 := li_0
    have q3 := tr v1
    have q4 : ((0 : Int32)).toInt ≤ (v1).toInt := w1_0
    have q5 := li_20
    have q6 : (v1).toInt ≤ ((20 : Int32)).toInt := w1_1
    refine zok_f (by decide) ?_
    rcases u_CH_within N v2 (0 : Int32) (4095 : Int32)  with w8 | ⟨w8, w8_0, w8_1⟩ <;> rw [w8, zbs]
    · refine zok_t (by decide) ?_
      have q13 := li_m1
      exact zok_some ⟨(show (-1 : Int) ≤ (((-1) : Int32)).toInt ∧ (((-1) : Int32)).toInt ≤ 39 from ⟨by omega, by omega⟩), h_s1, g_s1⟩
    · have q9 := tr v2
      have q10 : ((0 : Int32)).toInt ≤ (v2).toInt := w8_0
      have q11 := li_4095
      have q12 : (v2).toInt ≤ ((4095 : Int32)).toInt := w8_1
      refine zok_f (by decide) ?_
      have q14 := li_m1
      have q15 : (0 : Int) ≤ ((zI s0 9)).toInt ∧ ((zI s0 9)).toInt ≤ 100000 := (h_s0).1 9
      refine zok_bind (t_Entries_add N hN s1 v1 ((-1) : Int32) v2 (0 : Int32) (0 : Int32) (zI s0 9) h_s1 (show (0 : Int) ≤ (v1).toInt ∧ (v1).toInt ≤ 95 from ⟨by omega, by omega⟩) (show (-1 : Int) ≤ (((-1) : Int32)).toInt ∧ (((-1) : Int32)).toInt ≤ 3 from ⟨by omega, by omega⟩) (show (0 : Int) ≤ (v2).toInt ∧ (v2).toInt ≤ 4095 from ⟨by omega, by omega⟩) (show (0 : Int) ≤ ((0 : Int32)).toInt ∧ ((0 : Int32)).toInt ≤ 999 from ⟨by omega, by omega⟩) (show (0 : Int) ≤ ((0 : Int32)).toInt ∧ ((0 : Int32)).toInt ≤ 999 from ⟨by omega, by omega⟩) (show (0 : Int) ≤ ((zI s0 9)).toInt ∧ ((zI s0 9)).toInt ≤ 100000 from ⟨by omega, by omega⟩)) (fun z7 hz7 => ?_)
      obtain ⟨h_z7_1, h_z7_2, fr_z7_2⟩ := hz7
      exact zok_some ⟨(show (-1 : Int) ≤ (z7.1).toInt ∧ (z7.1).toInt ≤ 39 from ⟨by omega, by omega⟩), h_z7_2, (Fr.tr fr_z7_2 g_s1 rfl rfl)⟩
theorem t_CH_evening (N : Nat) (hN : 50000000 ≤ N) (s0 : zSt) (s1 : zSt) (v1 : Int32) (v2 : Int32) (h_s0 : I_CH s0) (h_s1 : I_Entries s1) : zok (CH_evening N s0 s1 v1 v2) (fun z => ((-1 : Int) ≤ (z.1).toInt ∧ (z.1).toInt ≤ 39) ∧ I_Entries z.2 ∧ Fr [0] [1, 2, 3, 4, 5, 6, 7] z.2 s1) :=
  t_CH_evening_b0 N hN s0 s1 v1 v2 s1 h_s0 h_s1 ⟨fun _ _ => rfl, fun _ _ => rfl⟩
theorem t_CH_note_b0 (N : Nat) (hN : 50000000 ≤ N) (s0 : zSt) (s1 : zSt) (s2 : zSt) (s3 : zSt) (v1 : Int32) (v2 : Int32) (v3 : Int32) (v4 : Int32) (gs3 : zSt) (h_s0 : I_CH s0) (h_s1 : I_Valley s1) (h_s2 : I_Earnest s2) (h_s3 : I_Entries s3) (g_s3 : Fr [0] [1, 2, 3, 4, 5, 6, 7] s3 gs3) : zok (CH_note_b0 N s0 s1 s2 s3 v1 v2 v3 v4) (fun z => ((-1 : Int) ≤ (z.1).toInt ∧ (z.1).toInt ≤ 39) ∧ I_Entries z.2 ∧ Fr [0] [1, 2, 3, 4, 5, 6, 7] z.2 gs3) := by
  rw [CH_note_b0]
  refine zok_bind (t_CH_hear N hN s0 s1 s2 v2 v3 h_s0 h_s1 h_s2) (fun z1 hz1 => ?_)
  have h_z1 := hz1
  have q2 := tr z1
  have q3 := li_m1
  refine zok_ite (fun c1 => ?_) (fun c1 => ?_)
  · have q4 : (z1).toInt = (((-1) : Int32)).toInt := teq c1
    exact zok_some ⟨(show (-1 : Int) ≤ (((-1) : Int32)).toInt ∧ (((-1) : Int32)).toInt ≤ 39 from ⟨by omega, by omega⟩), h_s3, g_s3⟩
  · have q5 : (z1).toInt ≠ (((-1) : Int32)).toInt := tneq c1
    rcases u_CH_within N v4 (0 : Int32) (99 : Int32)  with w6 | ⟨w6, w6_0, w6_1⟩ <;> rw [w6, zbs]
    · refine zok_t (by decide) ?_
      exact zok_some ⟨(show (-1 : Int) ≤ (((-1) : Int32)).toInt ∧ (((-1) : Int32)).toInt ≤ 39 from ⟨by omega, by omega⟩), h_s3, g_s3⟩
    · have q7 := li_0
      have q8 := tr v4
      have q9 : ((0 : Int32)).toInt ≤ (v4).toInt := w6_0
      have q10 := li_99
      have q11 : (v4).toInt ≤ ((99 : Int32)).toInt := w6_1
      refine zok_f (by decide) ?_
      refine zok_bind (t_Math_max N hN (0 : Int32) (z1 - v4) ) (fun z7 hz7 => ?_)
      have h_z7 := hz7
      refine zok_bind (t_CH_sound N hN s0 s1 s3 v1 v2 v3 z7 (z1 + v4) h_s0 h_s1 h_s3) (fun z9 hz9 => ?_)
      obtain ⟨h_z9_1, h_z9_2, fr_z9_2⟩ := hz9
      exact zok_some ⟨(show (-1 : Int) ≤ (z9.1).toInt ∧ (z9.1).toInt ≤ 39 from ⟨by omega, by omega⟩), h_z9_2, (Fr.tr fr_z9_2 g_s3 rfl rfl)⟩
theorem t_CH_note (N : Nat) (hN : 50000000 ≤ N) (s0 : zSt) (s1 : zSt) (s2 : zSt) (s3 : zSt) (v1 : Int32) (v2 : Int32) (v3 : Int32) (v4 : Int32) (h_s0 : I_CH s0) (h_s1 : I_Valley s1) (h_s2 : I_Earnest s2) (h_s3 : I_Entries s3) : zok (CH_note N s0 s1 s2 s3 v1 v2 v3 v4) (fun z => ((-1 : Int) ≤ (z.1).toInt ∧ (z.1).toInt ≤ 39) ∧ I_Entries z.2 ∧ Fr [0] [1, 2, 3, 4, 5, 6, 7] z.2 s3) :=
  t_CH_note_b0 N hN s0 s1 s2 s3 v1 v2 v3 v4 s3 h_s0 h_s1 h_s2 h_s3 ⟨fun _ _ => rfl, fun _ _ => rfl⟩
theorem t_CH_untell_b0 (N : Nat) (hN : 50000000 ≤ N) (s0 : zSt) (s1 : zSt) (v1 : Int32) (gs1 : zSt) (h_s0 : I_CH s0) (h_s1 : I_Entries s1) (g_s1 : Fr [] [7] s1 gs1) : zok (CH_untell_b0 N s0 s1 v1) (fun z => ((0 : Int) ≤ (z.1).toInt ∧ (z.1).toInt ≤ 1) ∧ I_Entries z.2 ∧ Fr [] [7] z.2 gs1) := by
  rw [CH_untell_b0]
  rcases u_CH_within N v1 (0 : Int32) ((zI s1 0) - (1 : Int32))  with w1 | ⟨w1, w1_0, w1_1⟩ <;> rw [w1, zbs]
  · refine zok_t (by decide) ?_
    have q9 := li_0
    exact zok_some ⟨(show (0 : Int) ≤ ((0 : Int32)).toInt ∧ ((0 : Int32)).toInt ≤ 1 from ⟨by omega, by omega⟩), h_s1, g_s1⟩
  · have q2 := li_0
    have q3 := tr v1
    have q4 : ((0 : Int32)).toInt ≤ (v1).toInt := w1_0
    have q5 : (0 : Int) ≤ ((zI s1 0)).toInt ∧ ((zI s1 0)).toInt ≤ 40 := (h_s1).1 0
    have q6 := li_1
    have q7 := tsub (zI s1 0) (1 : Int32) (by omega) (by omega)
    have q8 : (v1).toInt ≤ (((zI s1 0) - (1 : Int32))).toInt := w1_1
    refine zok_f (by decide) ?_
    refine zok_ck (show vp_in v1 40 from vin (by omega) (by omega)) ?_
    have q11 := tr ((zA s1 7) (Int32.toNatClampNeg v1))
    have q12 := li_m1
    refine zok_ite (fun c10 => ?_) (fun c10 => ?_)
    · have q13 : (((zA s1 7) (Int32.toNatClampNeg v1))).toInt = (((-1) : Int32)).toInt := teq c10
      refine zok_ck (show vp_in v1 40 from vin (by omega) (by omega)) ?_
      exact zok_some ⟨(show (0 : Int) ≤ ((1 : Int32)).toInt ∧ ((1 : Int32)).toInt ≤ 1 from ⟨by omega, by omega⟩), (IS.sA 7 (upd (zA s1 7) (Int32.toNatClampNeg v1) (zI s0 9)) h_s1 (fun _ => tr _)), (Fr.sA g_s1 rfl)⟩
    · have q14 : (((zA s1 7) (Int32.toNatClampNeg v1))).toInt ≠ (((-1) : Int32)).toInt := tneq c10
      exact zok_some ⟨(show (0 : Int) ≤ ((0 : Int32)).toInt ∧ ((0 : Int32)).toInt ≤ 1 from ⟨by omega, by omega⟩), h_s1, g_s1⟩
theorem t_CH_untell (N : Nat) (hN : 50000000 ≤ N) (s0 : zSt) (s1 : zSt) (v1 : Int32) (h_s0 : I_CH s0) (h_s1 : I_Entries s1) : zok (CH_untell N s0 s1 v1) (fun z => ((0 : Int) ≤ (z.1).toInt ∧ (z.1).toInt ≤ 1) ∧ I_Entries z.2 ∧ Fr [] [7] z.2 s1) :=
  t_CH_untell_b0 N hN s0 s1 v1 s1 h_s0 h_s1 ⟨fun _ _ => rfl, fun _ _ => rfl⟩
theorem t_CH_later_b0 (N : Nat) (hN : 50000000 ≤ N) (s0 : zSt) (v1 : Int32) (gs0 : zSt) (h_s0 : I_CH s0) (g_s0 : Fr [9] [] s0 gs0) : zok (CH_later_b0 N s0 v1) (fun z => ((-1 : Int) ≤ (z.1).toInt ∧ (z.1).toInt ≤ 100000) ∧ I_CH z.2 ∧ Fr [9] [] z.2 gs0) := by
  rw [CH_later_b0]
  rcases u_CH_within N v1 (0 : Int32) (1000 : Int32)  with w1 | ⟨w1, w1_0, w1_1⟩ <;> rw [w1, zbs]
  · refine zok_t (by decide) ?_
    have q7 := li_m1
    exact zok_some ⟨(show (-1 : Int) ≤ (((-1) : Int32)).toInt ∧ (((-1) : Int32)).toInt ≤ 100000 from ⟨by omega, by omega⟩), h_s0, g_s0⟩
  · have q2 := li_0
    have q3 := tr v1
    have q4 : ((0 : Int32)).toInt ≤ (v1).toInt := w1_0
    have q5 := li_1000
    have q6 : (v1).toInt ≤ ((1000 : Int32)).toInt := w1_1
    refine zok_f (by decide) ?_
    have q9 : (0 : Int) ≤ ((zI s0 9)).toInt ∧ ((zI s0 9)).toInt ≤ 100000 := (h_s0).1 9
    have q10 := tadd (zI s0 9) v1 (by omega) (by omega)
    have q11 := li_100000
    refine zok_ite (fun c8 => ?_) (fun c8 => ?_)
    · have q12 : (((zI s0 9) + v1)).toInt ≤ ((100000 : Int32)).toInt := tle c8
      exact zok_some ⟨(show (-1 : Int) ≤ (((zI s0 9) + v1)).toInt ∧ (((zI s0 9) + v1)).toInt ≤ 100000 from ⟨by omega, by omega⟩), (IS.pI 9 ((zI s0 9) + v1) h_s0 (show (0 : Int) ≤ (((zI s0 9) + v1)).toInt ∧ (((zI s0 9) + v1)).toInt ≤ 100000 from ⟨by omega, by omega⟩)), (Fr.pI g_s0 rfl)⟩
    · have q13 : (((zI s0 9) + v1)).toInt > ((100000 : Int32)).toInt := tnle c8
      have q14 := li_m1
      exact zok_some ⟨(show (-1 : Int) ≤ (((-1) : Int32)).toInt ∧ (((-1) : Int32)).toInt ≤ 100000 from ⟨by omega, by omega⟩), h_s0, g_s0⟩
theorem t_CH_later (N : Nat) (hN : 50000000 ≤ N) (s0 : zSt) (v1 : Int32) (h_s0 : I_CH s0) : zok (CH_later N s0 v1) (fun z => ((-1 : Int) ≤ (z.1).toInt ∧ (z.1).toInt ≤ 100000) ∧ I_CH z.2 ∧ Fr [9] [] z.2 s0) :=
  t_CH_later_b0 N hN s0 v1 s0 h_s0 ⟨fun _ _ => rfl, fun _ _ => rfl⟩
theorem t_CH_sets_b0 (N : Nat) (hN : 50000000 ≤ N) (s0 : zSt) (s1 : zSt) (s2 : zSt) (s3 : zSt) (s4 : zSt) (v1 : Int32) (v2 : Int32) (v3 : Int32) (v4 : Int32) (gs1 gs3 : zSt) (h_s0 : I_CH s0) (h_s1 : I_Bounds s1) (h_s2 : I_Entries s2) (h_s3 : I_Sets s3) (h_s4 : I_Valley s4) (hET : ET s2) (g_s1 : Fr [0, 2] [1, 3, 4, 5] s1 gs1) (g_s3 : Fr [0, 1, 2, 3, 4, 5, 6, 7] [8, 9, 10, 11, 12, 13] s3 gs3) : zok (CH_sets_b0 N s0 s1 s2 s3 s4 v1 v2 v3 v4) (fun z => True ∧ I_Bounds z.2.1 ∧ Fr [0, 2] [1, 3, 4, 5] z.2.1 gs1 ∧ I_Sets z.2.2 ∧ Fr [0, 1, 2, 3, 4, 5, 6, 7] [8, 9, 10, 11, 12, 13] z.2.2 gs3) := by
  rw [CH_sets_b0]
  rcases u_CH_isQuarter N v1  with w1 | ⟨w1, w1_0, w1_1⟩ <;> rw [w1, zbs]
  · refine zok_t (by decide) ?_
    exact zok_some ⟨trivial, h_s1, g_s1, h_s3, g_s3⟩
  · have q2 := li_0
    have q3 := tr v1
    have q4 : ((0 : Int32)).toInt ≤ (v1).toInt := w1_0
    have q5 := li_95
    have q6 : (v1).toInt ≤ ((95 : Int32)).toInt := w1_1
    refine zok_f (by decide) ?_
    rcases u_CH_isWind N v2  with w7 | ⟨w7, w7_0, w7_1⟩ <;> rw [w7, zbs]
    · refine zok_t (by decide) ?_
      exact zok_some ⟨trivial, h_s1, g_s1, h_s3, g_s3⟩
    · have q8 := tr v2
      have q9 : ((0 : Int32)).toInt ≤ (v2).toInt := w7_0
      have q10 := li_20
      have q11 : (v2).toInt ≤ ((20 : Int32)).toInt := w7_1
      refine zok_f (by decide) ?_
      rcases u_CH_within N v3 (0 : Int32) (5 : Int32)  with w12 | ⟨w12, w12_0, w12_1⟩ <;> rw [w12, zbs]
      · refine zok_t (by decide) ?_
        exact zok_some ⟨trivial, h_s1, g_s1, h_s3, g_s3⟩
      · have q13 := tr v3
        have q14 : ((0 : Int32)).toInt ≤ (v3).toInt := w12_0
        have q15 := li_5
        have q16 : (v3).toInt ≤ ((5 : Int32)).toInt := w12_1
        refine zok_f (by decide) ?_
        refine zok_bind (t_Bounds_gather N hN s1 s2 v1 v4 h_s1 h_s2 (show (0 : Int) ≤ (v1).toInt ∧ (v1).toInt ≤ 95 from ⟨by omega, by omega⟩) hET) (fun z10 hz10 => ?_)
        obtain ⟨h_z10, fr_z10⟩ := hz10
        refine zok_bind (t_Sets_seek N hN s3 s4 z10 v2 h_s3 h_s4 h_z10 (show (0 : Int) ≤ (v2).toInt ∧ (v2).toInt ≤ 20 from ⟨by omega, by omega⟩)) (fun z12 hz12 => ?_)
        obtain ⟨h_z12, fr_z12⟩ := hz12
        refine zok_ite (fun c17 => ?_) (fun c17 => ?_)
        · have q18 : (v3).toInt = ((0 : Int32)).toInt := teq c17
          exact zok_some ⟨trivial, h_z10, (Fr.tr fr_z10 g_s1 rfl rfl), h_z12, (Fr.tr fr_z12 g_s3 rfl rfl)⟩
        · have q19 : (v3).toInt ≠ ((0 : Int32)).toInt := tneq c17
          have q21 := li_1
          refine zok_ite (fun c20 => ?_) (fun c20 => ?_)
          · have q22 : (v3).toInt = ((1 : Int32)).toInt := teq c20
            exact zok_some ⟨trivial, h_z10, (Fr.tr fr_z10 g_s1 rfl rfl), h_z12, (Fr.tr fr_z12 g_s3 rfl rfl)⟩
          · have q23 : (v3).toInt ≠ ((1 : Int32)).toInt := tneq c20
            have q25 := li_2
            refine zok_ite (fun c24 => ?_) (fun c24 => ?_)
            · have q26 : (v3).toInt = ((2 : Int32)).toInt := teq c24
              exact zok_some ⟨trivial, h_z10, (Fr.tr fr_z10 g_s1 rfl rfl), h_z12, (Fr.tr fr_z12 g_s3 rfl rfl)⟩
            · have q27 : (v3).toInt ≠ ((2 : Int32)).toInt := tneq c24
              have q29 := li_3
              refine zok_ite (fun c28 => ?_) (fun c28 => ?_)
              · have q30 : (v3).toInt = ((3 : Int32)).toInt := teq c28
                exact zok_some ⟨trivial, h_z10, (Fr.tr fr_z10 g_s1 rfl rfl), h_z12, (Fr.tr fr_z12 g_s3 rfl rfl)⟩
              · have q31 : (v3).toInt ≠ ((3 : Int32)).toInt := tneq c28
                have q33 := li_4
                refine zok_ite (fun c32 => ?_) (fun c32 => ?_)
                · have q34 : (v3).toInt = ((4 : Int32)).toInt := teq c32
                  exact zok_some ⟨trivial, h_z10, (Fr.tr fr_z10 g_s1 rfl rfl), h_z12, (Fr.tr fr_z12 g_s3 rfl rfl)⟩
                · have q35 : (v3).toInt ≠ ((4 : Int32)).toInt := tneq c32
                  exact zok_some ⟨trivial, h_z10, (Fr.tr fr_z10 g_s1 rfl rfl), h_z12, (Fr.tr fr_z12 g_s3 rfl rfl)⟩
theorem t_CH_sets (N : Nat) (hN : 50000000 ≤ N) (s0 : zSt) (s1 : zSt) (s2 : zSt) (s3 : zSt) (s4 : zSt) (v1 : Int32) (v2 : Int32) (v3 : Int32) (v4 : Int32) (h_s0 : I_CH s0) (h_s1 : I_Bounds s1) (h_s2 : I_Entries s2) (h_s3 : I_Sets s3) (h_s4 : I_Valley s4) (hET : ET s2) : zok (CH_sets N s0 s1 s2 s3 s4 v1 v2 v3 v4) (fun z => True ∧ I_Bounds z.2.1 ∧ Fr [0, 2] [1, 3, 4, 5] z.2.1 s1 ∧ I_Sets z.2.2 ∧ Fr [0, 1, 2, 3, 4, 5, 6, 7] [8, 9, 10, 11, 12, 13] z.2.2 s3) :=
  t_CH_sets_b0 N hN s0 s1 s2 s3 s4 v1 v2 v3 v4 s1 s3 h_s0 h_s1 h_s2 h_s3 h_s4 hET ⟨fun _ _ => rfl, fun _ _ => rfl⟩ ⟨fun _ _ => rfl, fun _ _ => rfl⟩
theorem t_CH_spring_b0 (N : Nat) (hN : 50000000 ≤ N) (s0 : zSt) (s1 : zSt) (s2 : zSt) (v1 : Int32) (v2 : Int32) (v3 : Int32) (v4 : Int32) (v5 : Int32) (gs2 : zSt) (h_s0 : I_CH s0) (h_s1 : I_Valley s1) (h_s2 : I_Parting s2) (g_s2 : Fr [0, 1, 2, 3, 4, 5] [] s2 gs2) : zok (CH_spring_b0 N s0 s1 s2 v1 v2 v3 v4 v5) (fun z => ((0 : Int) ≤ (z.1).toInt ∧ (z.1).toInt ≤ 1) ∧ I_Parting z.2 ∧ Fr [0, 1, 2, 3, 4, 5] [] z.2 gs2) := by
  rw [CH_spring_b0]
  rcases u_Valley_hasEar N s1 v1  with w1 | ⟨w1, w1_0, w1_1⟩ <;> rw [w1, zbs]
  · refine zok_t (by decide) ?_
    have q9 := li_0
    exact zok_some ⟨(show (0 : Int) ≤ ((0 : Int32)).toInt ∧ ((0 : Int32)).toInt ≤ 1 from ⟨by omega, by omega⟩), h_s2, g_s2⟩
  · have q2 := li_0
    have q3 := tr v1
    have q4 : ((0 : Int32)).toInt ≤ (v1).toInt := w1_0
    have q5 : (0 : Int) ≤ ((zI s1 12)).toInt ∧ ((zI s1 12)).toInt ≤ 4 := (h_s1).1 12
    have q6 := li_1
    have q7 := tsub (zI s1 12) (1 : Int32) (by omega) (by omega)
    have q8 : (v1).toInt ≤ (((zI s1 12) - (1 : Int32))).toInt := w1_1
    refine zok_f (by decide) ?_
    rcases u_Valley_hasEar N s1 v3  with w10 | ⟨w10, w10_0, w10_1⟩ <;> rw [w10, zbs]
    · refine zok_t (by decide) ?_
      exact zok_some ⟨(show (0 : Int) ≤ ((0 : Int32)).toInt ∧ ((0 : Int32)).toInt ≤ 1 from ⟨by omega, by omega⟩), h_s2, g_s2⟩
    · have q11 := tr v3
      have q12 : ((0 : Int32)).toInt ≤ (v3).toInt := w10_0
      have q13 : (v3).toInt ≤ (((zI s1 12) - (1 : Int32))).toInt := w10_1
      refine zok_f (by decide) ?_
      refine zok_ite (fun c14 => ?_) (fun c14 => ?_)
      · have q15 : (v1).toInt = (v3).toInt := teq c14
        exact zok_some ⟨(show (0 : Int) ≤ ((0 : Int32)).toInt ∧ ((0 : Int32)).toInt ≤ 1 from ⟨by omega, by omega⟩), h_s2, g_s2⟩
      · have q16 : (v1).toInt ≠ (v3).toInt := tneq c14
        rcases u_CH_isPlace N v2  with w17 | ⟨w17, w17_0, w17_1⟩ <;> rw [w17, zbs]
        · refine zok_t (by decide) ?_
          exact zok_some ⟨(show (0 : Int) ≤ ((0 : Int32)).toInt ∧ ((0 : Int32)).toInt ≤ 1 from ⟨by omega, by omega⟩), h_s2, g_s2⟩
        · have q18 := tr v2
          have q19 : ((0 : Int32)).toInt ≤ (v2).toInt := w17_0
          have q20 := li_99
          have q21 : (v2).toInt ≤ ((99 : Int32)).toInt := w17_1
          refine zok_f (by decide) ?_
          rcases u_CH_isPlace N v4  with w22 | ⟨w22, w22_0, w22_1⟩ <;> rw [w22, zbs]
          · refine zok_t (by decide) ?_
            exact zok_some ⟨(show (0 : Int) ≤ ((0 : Int32)).toInt ∧ ((0 : Int32)).toInt ≤ 1 from ⟨by omega, by omega⟩), h_s2, g_s2⟩
          · have q23 := tr v4
            have q24 : ((0 : Int32)).toInt ≤ (v4).toInt := w22_0
            have q25 : (v4).toInt ≤ ((99 : Int32)).toInt := w22_1
            refine zok_f (by decide) ?_
            rcases u_CH_isQuarter N v5  with w26 | ⟨w26, w26_0, w26_1⟩ <;> rw [w26, zbs]
            · refine zok_t (by decide) ?_
              exact zok_some ⟨(show (0 : Int) ≤ ((0 : Int32)).toInt ∧ ((0 : Int32)).toInt ≤ 1 from ⟨by omega, by omega⟩), h_s2, g_s2⟩
            · have q27 := tr v5
              have q28 : ((0 : Int32)).toInt ≤ (v5).toInt := w26_0
              have q29 := li_95
              have q30 : (v5).toInt ≤ ((95 : Int32)).toInt := w26_1
              refine zok_f (by decide) ?_
              exact zok_some ⟨(show (0 : Int) ≤ ((1 : Int32)).toInt ∧ ((1 : Int32)).toInt ≤ 1 from ⟨by omega, by omega⟩), (IS.pI 5 v5 (IS.pI 4 v4 (IS.pI 3 v3 (IS.pI 2 v2 (IS.pI 1 v1 (IS.pI 0 (1 : Int32) h_s2 (show (0 : Int) ≤ ((1 : Int32)).toInt ∧ ((1 : Int32)).toInt ≤ 1 from ⟨by omega, by omega⟩)) (show (0 : Int) ≤ (v1).toInt ∧ (v1).toInt ≤ 3 from ⟨by omega, by omega⟩)) (show (0 : Int) ≤ (v2).toInt ∧ (v2).toInt ≤ 99 from ⟨by omega, by omega⟩)) (show (0 : Int) ≤ (v3).toInt ∧ (v3).toInt ≤ 3 from ⟨by omega, by omega⟩)) (show (0 : Int) ≤ (v4).toInt ∧ (v4).toInt ≤ 99 from ⟨by omega, by omega⟩)) (show (0 : Int) ≤ (v5).toInt ∧ (v5).toInt ≤ 95 from ⟨by omega, by omega⟩)), (Fr.pI (Fr.pI (Fr.pI (Fr.pI (Fr.pI (Fr.pI g_s2 rfl) rfl) rfl) rfl) rfl) rfl)⟩
theorem t_CH_spring (N : Nat) (hN : 50000000 ≤ N) (s0 : zSt) (s1 : zSt) (s2 : zSt) (v1 : Int32) (v2 : Int32) (v3 : Int32) (v4 : Int32) (v5 : Int32) (h_s0 : I_CH s0) (h_s1 : I_Valley s1) (h_s2 : I_Parting s2) : zok (CH_spring N s0 s1 s2 v1 v2 v3 v4 v5) (fun z => ((0 : Int) ≤ (z.1).toInt ∧ (z.1).toInt ≤ 1) ∧ I_Parting z.2 ∧ Fr [0, 1, 2, 3, 4, 5] [] z.2 s2) :=
  t_CH_spring_b0 N hN s0 s1 s2 v1 v2 v3 v4 v5 s2 h_s0 h_s1 h_s2 ⟨fun _ _ => rfl, fun _ _ => rfl⟩
theorem t_CH_parted_b0 (N : Nat) (hN : 50000000 ≤ N) (s0 : zSt) (s1 : zSt) (s2 : zSt) (s3 : zSt) (s4 : zSt) (v1 : Int32) (v2 : Int32) (v3 : Int32) (gs1 gs2 : zSt) (h_s0 : I_CH s0) (h_s1 : I_Parting s1) (h_s2 : I_Bounds s2) (h_s3 : I_Entries s3) (h_s4 : I_Valley s4) (hET : ET s3) (g_s1 : Fr [6, 7, 8, 9, 10] [] s1 gs1) (g_s2 : Fr [0, 2] [1, 3, 4, 5] s2 gs2) : zok (CH_parted_b0 N s0 s1 s2 s3 s4 v1 v2 v3) (fun z => True ∧ I_Parting z.2.1 ∧ Fr [6, 7, 8, 9, 10] [] z.2.1 gs1 ∧ I_Bounds z.2.2 ∧ Fr [0, 2] [1, 3, 4, 5] z.2.2 gs2) := by
  rw [CH_parted_b0]
  have q2 : (0 : Int) ≤ ((zI s1 0)).toInt ∧ ((zI s1 0)).toInt ≤ 1 := (h_s1).1 0
  have q3 := li_0
  refine zok_ite (fun c1 => ?_) (fun c1 => ?_)
  · have q4 : ((zI s1 0)).toInt = ((0 : Int32)).toInt := teq c1
    exact zok_some ⟨trivial, h_s1, g_s1, h_s2, g_s2⟩
  · have q5 : ((zI s1 0)).toInt ≠ ((0 : Int32)).toInt := tneq c1
    rcases u_CH_isWind N v1  with w6 | ⟨w6, w6_0, w6_1⟩ <;> rw [w6, zbs]
    · refine zok_t (by decide) ?_
      exact zok_some ⟨trivial, h_s1, g_s1, h_s2, g_s2⟩
    · have q7 := tr v1
      have q8 : ((0 : Int32)).toInt ≤ (v1).toInt := w6_0
      have q9 := li_20
      have q10 : (v1).toInt ≤ ((20 : Int32)).toInt := w6_1
      refine zok_f (by decide) ?_
      rcases u_CH_within N v2 (0 : Int32) (4 : Int32)  with w11 | ⟨w11, w11_0, w11_1⟩ <;> rw [w11, zbs]
      · refine zok_t (by decide) ?_
        exact zok_some ⟨trivial, h_s1, g_s1, h_s2, g_s2⟩
      · have q12 := tr v2
        have q13 : ((0 : Int32)).toInt ≤ (v2).toInt := w11_0
        have q14 := li_4
        have q15 : (v2).toInt ≤ ((4 : Int32)).toInt := w11_1
        refine zok_f (by decide) ?_
        have q16 : (0 : Int) ≤ ((zI s1 5)).toInt ∧ ((zI s1 5)).toInt ≤ 95 := (h_s1).1 5
        refine zok_bind (t_Bounds_gather N hN s2 s3 (zI s1 5) v3 h_s2 h_s3 (show (0 : Int) ≤ ((zI s1 5)).toInt ∧ ((zI s1 5)).toInt ≤ 95 from ⟨by omega, by omega⟩) hET) (fun z8 hz8 => ?_)
        obtain ⟨h_z8, fr_z8⟩ := hz8
        refine zok_bind (t_Parting_seek N hN s1 s4 z8 v1 h_s1 (show (1 : Int) ≤ ((zI s1 0)).toInt ∧ ((zI s1 0)).toInt ≤ 1 from ⟨by omega, by omega⟩) h_s4 h_z8 (show (0 : Int) ≤ (v1).toInt ∧ (v1).toInt ≤ 20 from ⟨by omega, by omega⟩)) (fun z10 hz10 => ?_)
        obtain ⟨h_z10, fr_z10⟩ := hz10
        refine zok_ite (fun c17 => ?_) (fun c17 => ?_)
        · have q18 : (v2).toInt = ((0 : Int32)).toInt := teq c17
          exact zok_some ⟨trivial, h_z10, (Fr.tr fr_z10 g_s1 rfl rfl), h_z8, (Fr.tr fr_z8 g_s2 rfl rfl)⟩
        · have q19 : (v2).toInt ≠ ((0 : Int32)).toInt := tneq c17
          have q21 := li_1
          refine zok_ite (fun c20 => ?_) (fun c20 => ?_)
          · have q22 : (v2).toInt = ((1 : Int32)).toInt := teq c20
            exact zok_some ⟨trivial, h_z10, (Fr.tr fr_z10 g_s1 rfl rfl), h_z8, (Fr.tr fr_z8 g_s2 rfl rfl)⟩
          · have q23 : (v2).toInt ≠ ((1 : Int32)).toInt := tneq c20
            have q25 := li_2
            refine zok_ite (fun c24 => ?_) (fun c24 => ?_)
            · have q26 : (v2).toInt = ((2 : Int32)).toInt := teq c24
              exact zok_some ⟨trivial, h_z10, (Fr.tr fr_z10 g_s1 rfl rfl), h_z8, (Fr.tr fr_z8 g_s2 rfl rfl)⟩
            · have q27 : (v2).toInt ≠ ((2 : Int32)).toInt := tneq c24
              have q29 := li_3
              refine zok_ite (fun c28 => ?_) (fun c28 => ?_)
              · have q30 : (v2).toInt = ((3 : Int32)).toInt := teq c28
                exact zok_some ⟨trivial, h_z10, (Fr.tr fr_z10 g_s1 rfl rfl), h_z8, (Fr.tr fr_z8 g_s2 rfl rfl)⟩
              · have q31 : (v2).toInt ≠ ((3 : Int32)).toInt := tneq c28
                exact zok_some ⟨trivial, h_z10, (Fr.tr fr_z10 g_s1 rfl rfl), h_z8, (Fr.tr fr_z8 g_s2 rfl rfl)⟩
theorem t_CH_parted (N : Nat) (hN : 50000000 ≤ N) (s0 : zSt) (s1 : zSt) (s2 : zSt) (s3 : zSt) (s4 : zSt) (v1 : Int32) (v2 : Int32) (v3 : Int32) (h_s0 : I_CH s0) (h_s1 : I_Parting s1) (h_s2 : I_Bounds s2) (h_s3 : I_Entries s3) (h_s4 : I_Valley s4) (hET : ET s3) : zok (CH_parted N s0 s1 s2 s3 s4 v1 v2 v3) (fun z => True ∧ I_Parting z.2.1 ∧ Fr [6, 7, 8, 9, 10] [] z.2.1 s1 ∧ I_Bounds z.2.2 ∧ Fr [0, 2] [1, 3, 4, 5] z.2.2 s2) :=
  t_CH_parted_b0 N hN s0 s1 s2 s3 s4 v1 v2 v3 s1 s2 h_s0 h_s1 h_s2 h_s3 h_s4 hET ⟨fun _ _ => rfl, fun _ _ => rfl⟩ ⟨fun _ _ => rfl, fun _ _ => rfl⟩
theorem t_CH_isSoWith_b0 (N : Nat) (hN : 50000000 ≤ N) (s0 : zSt) (s1 : zSt) (s2 : zSt) (v1 : Int32) (v2 : Int32) (v3 : Int32) (v4 : Int32) (h_s0 : I_CH s0) (h_s1 : I_Entries s1) (h_s1_0 : (1 : Int) ≤ (zI s1 0).toInt ∧ (zI s1 0).toInt ≤ 40) (h_s2 : I_Valley s2) (h_v1 : (0 : Int) ≤ (v1).toInt ∧ (v1).toInt ≤ 2047) (h_v2 : (0 : Int) ≤ (v2).toInt ∧ (v2).toInt ≤ 39) (h_v3 : (0 : Int) ≤ (v3).toInt ∧ (v3).toInt ≤ 99) (h_v4 : (0 : Int) ≤ (v4).toInt ∧ (v4).toInt ≤ 20) (hx0 : (0 : Int) ≤ (((zA s1 2) (Int32.toNatClampNeg v2))).toInt) : zok (CH_isSoWith_b0 N s0 s1 s2 v1 v2 v3 v4) (fun z => ((0 : Int) ≤ (z).toInt ∧ (z).toInt ≤ 1)) := by
  rw [CH_isSoWith_b0]
  refine zok_ck (show vp_in v2 40 from vin (by omega) (by omega)) ?_
  refine zok_ck (show vp_in v2 40 from vin (by omega) (by omega)) ?_
  have q1 : (-1 : Int) ≤ (((zA s1 2) (Int32.toNatClampNeg v2))).toInt ∧ (((zA s1 2) (Int32.toNatClampNeg v2))).toInt ≤ 3 := (h_s1).2 2 _
  refine zok_bind (t_Valley_loudness N hN s2 v1 ((zA s1 3) (Int32.toNatClampNeg v2)) ((zA s1 2) (Int32.toNatClampNeg v2)) v3 v4 h_s2 (show (0 : Int) ≤ (v1).toInt ∧ (v1).toInt ≤ 2047 from ⟨by omega, by omega⟩) (show (0 : Int) ≤ (((zA s1 2) (Int32.toNatClampNeg v2))).toInt ∧ (((zA s1 2) (Int32.toNatClampNeg v2))).toInt ≤ 3 from ⟨by omega, by omega⟩) (show (0 : Int) ≤ (v3).toInt ∧ (v3).toInt ≤ 99 from ⟨by omega, by omega⟩) (show (0 : Int) ≤ (v4).toInt ∧ (v4).toInt ≤ 20 from ⟨by omega, by omega⟩)) (fun z3 hz3 => ?_)
  have h_z3 := hz3
  refine zok_ck (show vp_in v2 40 from vin (by omega) (by omega)) ?_
  refine zok_ck (show vp_in v2 40 from vin (by omega) (by omega)) ?_
  rcases u_CH_within N z3 ((zA s1 4) (Int32.toNatClampNeg v2)) ((zA s1 5) (Int32.toNatClampNeg v2))  with w2 | ⟨w2, w2_0, w2_1⟩ <;> rw [w2, zbs]
  · refine zok_cb (by decide) ?_
    have q8 := li_0
    exact zok_some (show (0 : Int) ≤ ((0 : Int32)).toInt ∧ ((0 : Int32)).toInt ≤ 1 from ⟨by omega, by omega⟩)
  · have q3 := tr ((zA s1 4) (Int32.toNatClampNeg v2))
    have q4 := tr z3
    have q5 : (((zA s1 4) (Int32.toNatClampNeg v2))).toInt ≤ (z3).toInt := w2_0
    have q6 := tr ((zA s1 5) (Int32.toNatClampNeg v2))
    have q7 : (z3).toInt ≤ (((zA s1 5) (Int32.toNatClampNeg v2))).toInt := w2_1
    refine zok_cb (by decide) ?_
    have q9 := li_1
    exact zok_some (show (0 : Int) ≤ ((1 : Int32)).toInt ∧ ((1 : Int32)).toInt ≤ 1 from ⟨by omega, by omega⟩)
theorem t_CH_isSoWith (N : Nat) (hN : 50000000 ≤ N) (s0 : zSt) (s1 : zSt) (s2 : zSt) (v1 : Int32) (v2 : Int32) (v3 : Int32) (v4 : Int32) (h_s0 : I_CH s0) (h_s1 : I_Entries s1) (h_s1_0 : (1 : Int) ≤ (zI s1 0).toInt ∧ (zI s1 0).toInt ≤ 40) (h_s2 : I_Valley s2) (h_v1 : (0 : Int) ≤ (v1).toInt ∧ (v1).toInt ≤ 2047) (h_v2 : (0 : Int) ≤ (v2).toInt ∧ (v2).toInt ≤ 39) (h_v3 : (0 : Int) ≤ (v3).toInt ∧ (v3).toInt ≤ 99) (h_v4 : (0 : Int) ≤ (v4).toInt ∧ (v4).toInt ≤ 20) (hx0 : (0 : Int) ≤ (((zA s1 2) (Int32.toNatClampNeg v2))).toInt) : zok (CH_isSoWith N s0 s1 s2 v1 v2 v3 v4) (fun z => ((0 : Int) ≤ (z).toInt ∧ (z).toInt ≤ 1)) :=
  t_CH_isSoWith_b0 N hN s0 s1 s2 v1 v2 v3 v4  h_s0 h_s1 h_s1_0 h_s2 h_v1 h_v2 h_v3 h_v4 hx0 
theorem t_CH_came_b178 (N : Nat) (hN : 50000000 ≤ N) (kh64 : Int32 → Int32 → Int32 → Option (Int32)) (m64 : Int) (s0 : zSt) (s1 : zSt) (s2 : zSt) (v1 : Int32) (v2 : Int32) (v3 : Int32) (v4 : Int32) (v5 : Int32) (v6 : Int32) (v7 : Int32) (v8 : Int32) (hkh64 : ∀ (v6 : Int32) (v7 : Int32) (v8 : Int32), (0 : Int) ≤ (v8).toInt ∧ (v8).toInt ≤ 40 → 41 - (v8).toInt ≤ m64 - 1 → zok (kh64 v6 v7 v8) (fun z => True)) (h_s0 : I_CH s0) (h_s1 : I_Valley s1) (h_s2 : I_Entries s2) (h_s2_0 : (1 : Int) ≤ (zI s2 0).toInt ∧ (zI s2 0).toInt ≤ 40) (h_v1 : (0 : Int) ≤ (v1).toInt ∧ (v1).toInt ≤ 10) (h_v2 : (0 : Int) ≤ (v2).toInt ∧ (v2).toInt ≤ 99) (h_v3 : (0 : Int) ≤ (v3).toInt ∧ (v3).toInt ≤ 20) (h_v4 : (0 : Int) ≤ (v4).toInt ∧ (v4).toInt ≤ 2) (h_v8 : (0 : Int) ≤ (v8).toInt ∧ (v8).toInt ≤ 39) (hm64 : 41 - (v8).toInt ≤ m64) : zok (CH_came_b178 N kh64 s0 s1 s2 v1 v2 v3 v4 v5 v6 v7 v8) (fun z => True) := by
  rw [CH_came_b178]
  have q1 := li_1
  have q2 := tadd v8 (1 : Int32) (by omega) (by omega)
  exact hkh64 _ _ _ (show (0 : Int) ≤ ((v8 + (1 : Int32))).toInt ∧ ((v8 + (1 : Int32))).toInt ≤ 40 from ⟨by omega, by omega⟩) (show 41 - ((v8 + (1 : Int32))).toInt ≤ m64 - 1 by omega)
theorem t_CH_came_b143 (N : Nat) (hN : 50000000 ≤ N) (kh64 : Int32 → Int32 → Int32 → Option (Int32)) (m64 : Int) (s0 : zSt) (s1 : zSt) (s2 : zSt) (v1 : Int32) (v2 : Int32) (v3 : Int32) (v4 : Int32) (v5 : Int32) (v6 : Int32) (v7 : Int32) (v8 : Int32) (hkh64 : ∀ (v6 : Int32) (v7 : Int32) (v8 : Int32), (0 : Int) ≤ (v8).toInt ∧ (v8).toInt ≤ 40 → 41 - (v8).toInt ≤ m64 - 1 → zok (kh64 v6 v7 v8) (fun z => True)) (h_s0 : I_CH s0) (h_s1 : I_Valley s1) (h_s2 : I_Entries s2) (h_s2_0 : (1 : Int) ≤ (zI s2 0).toInt ∧ (zI s2 0).toInt ≤ 40) (h_v1 : (0 : Int) ≤ (v1).toInt ∧ (v1).toInt ≤ 10) (h_v2 : (0 : Int) ≤ (v2).toInt ∧ (v2).toInt ≤ 99) (h_v3 : (0 : Int) ≤ (v3).toInt ∧ (v3).toInt ≤ 20) (h_v4 : (0 : Int) ≤ (v4).toInt ∧ (v4).toInt ≤ 2) (h_v8 : (0 : Int) ≤ (v8).toInt ∧ (v8).toInt ≤ 39) (hx0 : (0 : Int) ≤ (((zA s2 2) (Int32.toNatClampNeg v8))).toInt) (hm64 : 41 - (v8).toInt ≤ m64) : zok (CH_came_b143 N kh64 s0 s1 s2 v1 v2 v3 v4 v5 v6 v7 v8) (fun z => True) := by
  rw [CH_came_b143]
  have q1 : (0 : Int) ≤ ((zI s2 0)).toInt ∧ ((zI s2 0)).toInt ≤ 40 := (h_s2).1 0
  have q2 : (0 : Int) ≤ ((zI s1 8)).toInt ∧ ((zI s1 8)).toInt ≤ 2047 := (h_s1).1 8
  have q3 := li_0
  have q4 : (-1 : Int) ≤ (((zA s2 2) (Int32.toNatClampNeg v8))).toInt ∧ (((zA s2 2) (Int32.toNatClampNeg v8))).toInt ≤ 3 := (h_s2).2 2 _
  refine zok_bind (t_CH_isSoWith N hN s0 s2 s1 (zI s1 8) v8 v2 v3 h_s0 h_s2 (show (1 : Int) ≤ ((zI s2 0)).toInt ∧ ((zI s2 0)).toInt ≤ 40 from ⟨by omega, by omega⟩) h_s1 (show (0 : Int) ≤ ((zI s1 8)).toInt ∧ ((zI s1 8)).toInt ≤ 2047 from ⟨by omega, by omega⟩) (show (0 : Int) ≤ (v8).toInt ∧ (v8).toInt ≤ 39 from ⟨by omega, by omega⟩) (show (0 : Int) ≤ (v2).toInt ∧ (v2).toInt ≤ 99 from ⟨by omega, by omega⟩) (show (0 : Int) ≤ (v3).toInt ∧ (v3).toInt ≤ 20 from ⟨by omega, by omega⟩) (show (0 : Int) ≤ (((zA s2 2) (Int32.toNatClampNeg v8))).toInt from by omega)) (fun z1 hz1 => ?_)
  have h_z1 := hz1
  refine zok_ite (fun c5 => ?_) (fun c5 => ?_)
  · have q6 : (z1).toInt = ((0 : Int32)).toInt := teq c5
    refine zok_ck (show vp_in v8 40 from vin (by omega) (by omega)) ?_
    refine zok_bind (t_Math_min N hN v7 ((zA s2 1) (Int32.toNatClampNeg v8)) ) (fun z5 hz5 => ?_)
    have h_z5 := hz5
    exact t_CH_came_b178 N hN kh64 m64 _ _ _ _ _ _ _ _ _ _ _  hkh64 h_s0 h_s1 h_s2 (show (1 : Int) ≤ ((zI s2 0)).toInt ∧ ((zI s2 0)).toInt ≤ 40 from ⟨by omega, by omega⟩) (show (0 : Int) ≤ (v1).toInt ∧ (v1).toInt ≤ 10 from ⟨by omega, by omega⟩) (show (0 : Int) ≤ (v2).toInt ∧ (v2).toInt ≤ 99 from ⟨by omega, by omega⟩) (show (0 : Int) ≤ (v3).toInt ∧ (v3).toInt ≤ 20 from ⟨by omega, by omega⟩) (show (0 : Int) ≤ (v4).toInt ∧ (v4).toInt ≤ 2 from ⟨by omega, by omega⟩) (show (0 : Int) ≤ (v8).toInt ∧ (v8).toInt ≤ 39 from ⟨by omega, by omega⟩) (show 41 - (v8).toInt ≤ m64 from by omega)
  · have q7 : (z1).toInt ≠ ((0 : Int32)).toInt := tneq c5
    exact t_CH_came_b178 N hN kh64 m64 _ _ _ _ _ _ _ _ _ _ _  hkh64 h_s0 h_s1 h_s2 (show (1 : Int) ≤ ((zI s2 0)).toInt ∧ ((zI s2 0)).toInt ≤ 40 from ⟨by omega, by omega⟩) (show (0 : Int) ≤ (v1).toInt ∧ (v1).toInt ≤ 10 from ⟨by omega, by omega⟩) (show (0 : Int) ≤ (v2).toInt ∧ (v2).toInt ≤ 99 from ⟨by omega, by omega⟩) (show (0 : Int) ≤ (v3).toInt ∧ (v3).toInt ≤ 20 from ⟨by omega, by omega⟩) (show (0 : Int) ≤ (v4).toInt ∧ (v4).toInt ≤ 2 from ⟨by omega, by omega⟩) (show (0 : Int) ≤ (v8).toInt ∧ (v8).toInt ≤ 39 from ⟨by omega, by omega⟩) (show 41 - (v8).toInt ≤ m64 from by omega)
theorem t_CH_came_b64 (N : Nat) (hN : 50000000 ≤ N) (kh64 : Int32 → Int32 → Int32 → Option (Int32)) (m64 : Int) (s0 : zSt) (s1 : zSt) (s2 : zSt) (v1 : Int32) (v2 : Int32) (v3 : Int32) (v4 : Int32) (v5 : Int32) (v6 : Int32) (v7 : Int32) (v8 : Int32) (hkh64 : ∀ (v6 : Int32) (v7 : Int32) (v8 : Int32), (0 : Int) ≤ (v8).toInt ∧ (v8).toInt ≤ 40 → 41 - (v8).toInt ≤ m64 - 1 → zok (kh64 v6 v7 v8) (fun z => True)) (h_s0 : I_CH s0) (h_s1 : I_Valley s1) (h_s2 : I_Entries s2) (h_v1 : (0 : Int) ≤ (v1).toInt ∧ (v1).toInt ≤ 10) (h_v2 : (0 : Int) ≤ (v2).toInt ∧ (v2).toInt ≤ 99) (h_v3 : (0 : Int) ≤ (v3).toInt ∧ (v3).toInt ≤ 20) (h_v4 : (0 : Int) ≤ (v4).toInt ∧ (v4).toInt ≤ 2) (h_v8 : (0 : Int) ≤ (v8).toInt ∧ (v8).toInt ≤ 40) (hm64 : 41 - (v8).toInt ≤ m64) : zok (CH_came_b64 N kh64 s0 s1 s2 v1 v2 v3 v4 v5 v6 v7 v8) (fun z => True) := by
  rw [CH_came_b64]
  have q2 : (0 : Int) ≤ ((zI s2 0)).toInt ∧ ((zI s2 0)).toInt ≤ 40 := (h_s2).1 0
  refine zok_ite (fun c1 => ?_) (fun c1 => ?_)
  · have q3 : ((zI s2 0)).toInt ≤ (v8).toInt := tle c1
    have q5 := tr v6
    have q6 := tr v7
    refine zok_ite (fun c4 => ?_) (fun c4 => ?_)
    · have q7 : (v6).toInt ≤ (v7).toInt := tle c4
      have q9 := li_0
      refine zok_ite (fun c8 => ?_) (fun c8 => ?_)
      · have q10 : (v4).toInt = ((0 : Int32)).toInt := teq c8
        exact zok_some trivial
      · have q11 : (v4).toInt ≠ ((0 : Int32)).toInt := tneq c8
        have q13 := li_1
        refine zok_ite (fun c12 => ?_) (fun c12 => ?_)
        · have q14 : (v4).toInt = ((1 : Int32)).toInt := teq c12
          exact zok_some trivial
        · have q15 : (v4).toInt ≠ ((1 : Int32)).toInt := tneq c12
          exact zok_some trivial
    · have q16 : (v6).toInt > (v7).toInt := tnle c4
      have q18 := li_0
      refine zok_ite (fun c17 => ?_) (fun c17 => ?_)
      · have q19 : (v4).toInt = ((0 : Int32)).toInt := teq c17
        exact zok_some trivial
      · have q20 : (v4).toInt ≠ ((0 : Int32)).toInt := tneq c17
        exact zok_some trivial
  · have q21 : ((zI s2 0)).toInt > (v8).toInt := tnle c1
    have q23 : (-1 : Int) ≤ (((zA s2 2) (Int32.toNatClampNeg v8))).toInt ∧ (((zA s2 2) (Int32.toNatClampNeg v8))).toInt ≤ 3 := (h_s2).2 2 _
    rcases u_Entries_isSound N s2 v8 (show vp_in v8 40 from vin (by omega) (by omega)) (show (-1 : Int) ≤ (((zA s2 2) (Int32.toNatClampNeg v8))).toInt by omega) with w22 | ⟨w22, w22_0⟩ <;> rw [w22, zbs]
    · refine zok_t (by decide) ?_
      exact t_CH_came_b178 N hN kh64 m64 _ _ _ _ _ _ _ _ _ _ _  hkh64 h_s0 h_s1 h_s2 (show (1 : Int) ≤ ((zI s2 0)).toInt ∧ ((zI s2 0)).toInt ≤ 40 from ⟨by omega, by omega⟩) (show (0 : Int) ≤ (v1).toInt ∧ (v1).toInt ≤ 10 from ⟨by omega, by omega⟩) (show (0 : Int) ≤ (v2).toInt ∧ (v2).toInt ≤ 99 from ⟨by omega, by omega⟩) (show (0 : Int) ≤ (v3).toInt ∧ (v3).toInt ≤ 20 from ⟨by omega, by omega⟩) (show (0 : Int) ≤ (v4).toInt ∧ (v4).toInt ≤ 2 from ⟨by omega, by omega⟩) (show (0 : Int) ≤ (v8).toInt ∧ (v8).toInt ≤ 39 from ⟨by omega, by omega⟩) (show 41 - (v8).toInt ≤ m64 from by omega)
    · have q24 := li_0
      have q25 : ((0 : Int32)).toInt ≤ (((zA s2 2) (Int32.toNatClampNeg v8))).toInt := w22_0
      refine zok_f (by decide) ?_
      refine zok_bind (t_Entries_counts N hN s2 v8 v5 h_s2 (show (1 : Int) ≤ ((zI s2 0)).toInt ∧ ((zI s2 0)).toInt ≤ 40 from ⟨by omega, by omega⟩) (show (0 : Int) ≤ (v8).toInt ∧ (v8).toInt ≤ 39 from ⟨by omega, by omega⟩)) (fun z8 hz8 => ?_)
      have h_z8 := hz8
      refine zok_ite (fun c26 => ?_) (fun c26 => ?_)
      · have q27 : (z8).toInt = ((0 : Int32)).toInt := teq c26
        exact t_CH_came_b178 N hN kh64 m64 _ _ _ _ _ _ _ _ _ _ _  hkh64 h_s0 h_s1 h_s2 (show (1 : Int) ≤ ((zI s2 0)).toInt ∧ ((zI s2 0)).toInt ≤ 40 from ⟨by omega, by omega⟩) (show (0 : Int) ≤ (v1).toInt ∧ (v1).toInt ≤ 10 from ⟨by omega, by omega⟩) (show (0 : Int) ≤ (v2).toInt ∧ (v2).toInt ≤ 99 from ⟨by omega, by omega⟩) (show (0 : Int) ≤ (v3).toInt ∧ (v3).toInt ≤ 20 from ⟨by omega, by omega⟩) (show (0 : Int) ≤ (v4).toInt ∧ (v4).toInt ≤ 2 from ⟨by omega, by omega⟩) (show (0 : Int) ≤ (v8).toInt ∧ (v8).toInt ≤ 39 from ⟨by omega, by omega⟩) (show 41 - (v8).toInt ≤ m64 from by omega)
      · have q28 : (z8).toInt ≠ ((0 : Int32)).toInt := tneq c26
        have q29 : (0 : Int) ≤ ((zI s1 8)).toInt ∧ ((zI s1 8)).toInt ≤ 2047 := (h_s1).1 8
        have q30 := tshl v1 10 (by decide) (by omega) (by omega)
        have q31 := tor (zI s1 8) ((1 : Int32) <<< (v1 &&& (31 : Int32))) 11 (by decide) (by omega) (by omega) (by omega) (by omega)
        refine zok_bind (t_CH_isSoWith N hN s0 s2 s1 ((zI s1 8) ||| ((1 : Int32) <<< (v1 &&& (31 : Int32)))) v8 v2 v3 h_s0 h_s2 (show (1 : Int) ≤ ((zI s2 0)).toInt ∧ ((zI s2 0)).toInt ≤ 40 from ⟨by omega, by omega⟩) h_s1 (show (0 : Int) ≤ (((zI s1 8) ||| ((1 : Int32) <<< (v1 &&& (31 : Int32))))).toInt ∧ (((zI s1 8) ||| ((1 : Int32) <<< (v1 &&& (31 : Int32))))).toInt ≤ 2047 from ⟨by omega, by omega⟩) (show (0 : Int) ≤ (v8).toInt ∧ (v8).toInt ≤ 39 from ⟨by omega, by omega⟩) (show (0 : Int) ≤ (v2).toInt ∧ (v2).toInt ≤ 99 from ⟨by omega, by omega⟩) (show (0 : Int) ≤ (v3).toInt ∧ (v3).toInt ≤ 20 from ⟨by omega, by omega⟩) (show (0 : Int) ≤ (((zA s2 2) (Int32.toNatClampNeg v8))).toInt from by omega)) (fun z11 hz11 => ?_)
        have h_z11 := hz11
        refine zok_ite (fun c32 => ?_) (fun c32 => ?_)
        · have q33 : (z11).toInt = ((0 : Int32)).toInt := teq c32
          refine zok_ck (show vp_in v8 40 from vin (by omega) (by omega)) ?_
          refine zok_bind (t_Math_max N hN v6 (((zA s2 1) (Int32.toNatClampNeg v8)) + (1 : Int32)) ) (fun z15 hz15 => ?_)
          have h_z15 := hz15
          exact t_CH_came_b143 N hN kh64 m64 _ _ _ _ _ _ _ _ _ _ _  hkh64 h_s0 h_s1 h_s2 (show (1 : Int) ≤ ((zI s2 0)).toInt ∧ ((zI s2 0)).toInt ≤ 40 from ⟨by omega, by omega⟩) (show (0 : Int) ≤ (v1).toInt ∧ (v1).toInt ≤ 10 from ⟨by omega, by omega⟩) (show (0 : Int) ≤ (v2).toInt ∧ (v2).toInt ≤ 99 from ⟨by omega, by omega⟩) (show (0 : Int) ≤ (v3).toInt ∧ (v3).toInt ≤ 20 from ⟨by omega, by omega⟩) (show (0 : Int) ≤ (v4).toInt ∧ (v4).toInt ≤ 2 from ⟨by omega, by omega⟩) (show (0 : Int) ≤ (v8).toInt ∧ (v8).toInt ≤ 39 from ⟨by omega, by omega⟩) (show (0 : Int) ≤ (((zA s2 2) (Int32.toNatClampNeg v8))).toInt from by omega) (show 41 - (v8).toInt ≤ m64 from by omega)
        · have q34 : (z11).toInt ≠ ((0 : Int32)).toInt := tneq c32
          exact t_CH_came_b143 N hN kh64 m64 _ _ _ _ _ _ _ _ _ _ _  hkh64 h_s0 h_s1 h_s2 (show (1 : Int) ≤ ((zI s2 0)).toInt ∧ ((zI s2 0)).toInt ≤ 40 from ⟨by omega, by omega⟩) (show (0 : Int) ≤ (v1).toInt ∧ (v1).toInt ≤ 10 from ⟨by omega, by omega⟩) (show (0 : Int) ≤ (v2).toInt ∧ (v2).toInt ≤ 99 from ⟨by omega, by omega⟩) (show (0 : Int) ≤ (v3).toInt ∧ (v3).toInt ≤ 20 from ⟨by omega, by omega⟩) (show (0 : Int) ≤ (v4).toInt ∧ (v4).toInt ≤ 2 from ⟨by omega, by omega⟩) (show (0 : Int) ≤ (v8).toInt ∧ (v8).toInt ≤ 39 from ⟨by omega, by omega⟩) (show (0 : Int) ≤ (((zA s2 2) (Int32.toNatClampNeg v8))).toInt from by omega) (show 41 - (v8).toInt ≤ m64 from by omega)
