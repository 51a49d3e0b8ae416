theorem t_Dealer_isKnown (N : Nat) (hN : 50000000 ≤ N) (s0 : zSt) (n1 : Nat) (f1 : Nat → Int32) (v1 : Int32) (v2 : Int32) (h_s0 : I_Dealer s0) (h_s0_0 : (1 : Int) ≤ (zI s0 0).toInt ∧ (zI s0 0).toInt ≤ 8) (h_s0_1 : (1 : Int) ≤ (zI s0 1).toInt ∧ (zI s0 1).toInt ≤ 2) (h_n1 : n1 = 8) (h_v1 : (0 : Int) ≤ (v1).toInt ∧ (v1).toInt ≤ 7) (h_v2 : (0 : Int) ≤ (v2).toInt ∧ (v2).toInt ≤ 7) (hx0 : (v1).toInt ≤ (7 : Int)) : zok (Dealer_isKnown N s0 n1 f1 v1 v2) (fun z => ((0 : Int) ≤ (z).toInt ∧ (z).toInt ≤ 1)) :=
  t_Dealer_isKnown_b0 N hN s0 n1 f1 v1 v2  h_s0 h_s0_0 h_s0_1 h_n1 h_v1 h_v2 hx0 
theorem t_Dealer_dealFrom_b66 (N : Nat) (hN : 50000000 ≤ N) (kr : zSt → Nat → (Nat → Int32) → Int32 → Int32 → Int32 → Option (Int32 × (Nat → Int32))) (mr : Int) (kh13 : (Nat → Int32) → Int32 → Option (Int32 × (Nat → Int32))) (m13 : Int) (s0 : zSt) (n1 : Nat) (f1 : Nat → Int32) (v1 : Int32) (v2 : Int32) (v3 : Int32) (v5 : Int32) (hkr : ∀ (s0 : zSt) (n1 : Nat) (f1 : (Nat → Int32)) (v1 : Int32) (v2 : Int32) (v3 : Int32), I_Dealer s0 → (1 : Int) ≤ (zI s0 1).toInt ∧ (zI s0 1).toInt ≤ 2 → n1 = 8 → (0 : Int) ≤ (v1).toInt ∧ (v1).toInt ≤ 8 → (0 : Int) ≤ (v3).toInt ∧ (v3).toInt ≤ 8 → 9 - (v1).toInt ≤ mr - 1 → zok (kr s0 n1 f1 v1 v2 v3) (fun z => ((0 : Int) ≤ (z.1).toInt ∧ (z.1).toInt ≤ 1) ∧ True)) (hkh13 : ∀ (f1 : (Nat → Int32)) (v5 : Int32), (0 : Int) ≤ (v5).toInt ∧ (v5).toInt ≤ 8 → ((v1 + (1 : Int32))).toInt ≤ ((zI s0 0)).toInt → 9 - (v5).toInt ≤ m13 - 1 → zok (kh13 f1 v5) (fun z => ((0 : Int) ≤ (z.1).toInt ∧ (z.1).toInt ≤ 1) ∧ True)) (h_s0 : I_Dealer s0) (h_s0_0 : (1 : Int) ≤ (zI s0 0).toInt ∧ (zI s0 0).toInt ≤ 8) (h_s0_1 : (1 : Int) ≤ (zI s0 1).toInt ∧ (zI s0 1).toInt ≤ 2) (h_n1 : n1 = 8) (h_v1 : (0 : Int) ≤ (v1).toInt ∧ (v1).toInt ≤ 7) (h_v2 : (0 : Int) ≤ (v2).toInt ∧ (v2).toInt ≤ 2147483647) (h_v3 : (1 : Int) ≤ (v3).toInt ∧ (v3).toInt ≤ 8) (h_v5 : (0 : Int) ≤ (v5).toInt ∧ (v5).toInt ≤ 7) (hx0 : ((v1 + (1 : Int32))).toInt ≤ ((zI s0 0)).toInt) (hmr : 9 - (v1).toInt ≤ mr) (hm13 : 9 - (v5).toInt ≤ m13) : zok (Dealer_dealFrom_b66 N kr kh13 s0 n1 f1 v1 v2 v3 v5) (fun z => ((0 : Int) ≤ (z.1).toInt ∧ (z.1).toInt ≤ 1) ∧ True) := by
  rw [Dealer_dealFrom_b66]
  have q1 := li_1
  have q2 := tadd v5 (1 : Int32) (by omega) (by omega)
  have q3 := tadd v1 (1 : Int32) (by omega) (by omega)
  have q4 : (0 : Int) ≤ ((zI s0 0)).toInt ∧ ((zI s0 0)).toInt ≤ 8 := (h_s0).1 0
  exact hkh13 _ _ (show (0 : Int) ≤ ((v5 + (1 : Int32))).toInt ∧ ((v5 + (1 : Int32))).toInt ≤ 8 from ⟨by omega, by omega⟩) (show ((v1 + (1 : Int32))).toInt ≤ ((zI s0 0)).toInt from by omega) (show 9 - ((v5 + (1 : Int32))).toInt ≤ m13 - 1 by omega)
theorem t_Dealer_dealFrom_b13 (N : Nat) (hN : 50000000 ≤ N) (kr : zSt → Nat → (Nat → Int32) → Int32 → Int32 → Int32 → Option (Int32 × (Nat → Int32))) (mr : Int) (kh13 : (Nat → Int32) → Int32 → Option (Int32 × (Nat → Int32))) (m13 : Int) (s0 : zSt) (n1 : Nat) (f1 : Nat → Int32) (v1 : Int32) (v2 : Int32) (v3 : Int32) (v5 : Int32) (hkr : ∀ (s0 : zSt) (n1 : Nat) (f1 : (Nat → Int32)) (v1 : Int32) (v2 : Int32) (v3 : Int32), I_Dealer s0 → (1 : Int) ≤ (zI s0 1).toInt ∧ (zI s0 1).toInt ≤ 2 → n1 = 8 → (0 : Int) ≤ (v1).toInt ∧ (v1).toInt ≤ 8 → (0 : Int) ≤ (v3).toInt ∧ (v3).toInt ≤ 8 → 9 - (v1).toInt ≤ mr - 1 → zok (kr s0 n1 f1 v1 v2 v3) (fun z => ((0 : Int) ≤ (z.1).toInt ∧ (z.1).toInt ≤ 1) ∧ True)) (hkh13 : ∀ (f1 : (Nat → Int32)) (v5 : Int32), (0 : Int) ≤ (v5).toInt ∧ (v5).toInt ≤ 8 → ((v1 + (1 : Int32))).toInt ≤ ((zI s0 0)).toInt → 9 - (v5).toInt ≤ m13 - 1 → zok (kh13 f1 v5) (fun z => ((0 : Int) ≤ (z.1).toInt ∧ (z.1).toInt ≤ 1) ∧ True)) (h_s0 : I_Dealer s0) (h_s0_0 : (1 : Int) ≤ (zI s0 0).toInt ∧ (zI s0 0).toInt ≤ 8) (h_s0_1 : (1 : Int) ≤ (zI s0 1).toInt ∧ (zI s0 1).toInt ≤ 2) (h_n1 : n1 = 8) (h_v1 : (0 : Int) ≤ (v1).toInt ∧ (v1).toInt ≤ 7) (h_v3 : (0 : Int) ≤ (v3).toInt ∧ (v3).toInt ≤ 8) (h_v5 : (0 : Int) ≤ (v5).toInt ∧ (v5).toInt ≤ 8) (hx0 : ((v1 + (1 : Int32))).toInt ≤ ((zI s0 0)).toInt) (hmr : 9 - (v1).toInt ≤ mr) (hm13 : 9 - (v5).toInt ≤ m13) : zok (Dealer_dealFrom_b13 N kr kh13 s0 n1 f1 v1 v2 v3 v5) (fun z => ((0 : Int) ≤ (z.1).toInt ∧ (z.1).toInt ≤ 1) ∧ True) := by
  rw [Dealer_dealFrom_b13]
  have q2 := tr v2
  refine zok_ite (fun c1 => ?_) (fun c1 => ?_)
  · have q3 : (v2).toInt < (v5).toInt := tlt c1
    have q4 := li_0
    exact zok_some ⟨(show (0 : Int) ≤ ((0 : Int32)).toInt ∧ ((0 : Int32)).toInt ≤ 1 from ⟨by omega, by omega⟩), trivial⟩
  · have q5 : (v2).toInt ≥ (v5).toInt := tnlt c1
    refine zok_ite (fun c6 => ?_) (fun c6 => ?_)
    · have q7 : (v3).toInt ≤ (v5).toInt := tle c6
      have q8 := li_0
      exact zok_some ⟨(show (0 : Int) ≤ ((0 : Int32)).toInt ∧ ((0 : Int32)).toInt ≤ 1 from ⟨by omega, by omega⟩), trivial⟩
    · have q9 : (v3).toInt > (v5).toInt := tnle c6
      have q10 : (0 : Int) ≤ ((zI s0 0)).toInt ∧ ((zI s0 0)).toInt ≤ 8 := (h_s0).1 0
      have q11 : (0 : Int) ≤ ((zI s0 1)).toInt ∧ ((zI s0 1)).toInt ≤ 2 := (h_s0).1 1
      have q12 := li_7
      refine zok_bind (t_Dealer_isKnown N hN s0 n1 f1 v1 v5 h_s0 (show (1 : Int) ≤ ((zI s0 0)).toInt ∧ ((zI s0 0)).toInt ≤ 8 from ⟨by omega, by omega⟩) (show (1 : Int) ≤ ((zI s0 1)).toInt ∧ ((zI s0 1)).toInt ≤ 2 from ⟨by omega, by omega⟩) h_n1 (show (0 : Int) ≤ (v1).toInt ∧ (v1).toInt ≤ 7 from ⟨by omega, by omega⟩) (show (0 : Int) ≤ (v5).toInt ∧ (v5).toInt ≤ 7 from ⟨by omega, by omega⟩) (show (v1).toInt ≤ (7 : Int) from by omega)) (fun z3 hz3 => ?_)
      have h_z3 := hz3
      have q14 := li_0
      refine zok_ite (fun c13 => ?_) (fun c13 => ?_)
      · have q15 : (z3).toInt = ((0 : Int32)).toInt := teq c13
        have q16 := li_1
        have q17 := tadd v1 (1 : Int32) (by omega) (by omega)
        exact t_Dealer_dealFrom_b66 N hN kr mr kh13 m13 _ _ _ _ _ _ _  hkr hkh13 h_s0 (show (1 : Int) ≤ ((zI s0 0)).toInt ∧ ((zI s0 0)).toInt ≤ 8 from ⟨by omega, by omega⟩) (show (1 : Int) ≤ ((zI s0 1)).toInt ∧ ((zI s0 1)).toInt ≤ 2 from ⟨by omega, by omega⟩) h_n1 (show (0 : Int) ≤ (v1).toInt ∧ (v1).toInt ≤ 7 from ⟨by omega, by omega⟩) (show (0 : Int) ≤ (v2).toInt ∧ (v2).toInt ≤ 2147483647 from ⟨by omega, by omega⟩) (show (1 : Int) ≤ (v3).toInt ∧ (v3).toInt ≤ 8 from ⟨by omega, by omega⟩) (show (0 : Int) ≤ (v5).toInt ∧ (v5).toInt ≤ 7 from ⟨by omega, by omega⟩) (show ((v1 + (1 : Int32))).toInt ≤ ((zI s0 0)).toInt from by omega) (show 9 - (v1).toInt ≤ mr from by omega) (show 9 - (v5).toInt ≤ m13 from by omega)
      · have q18 : (z3).toInt ≠ ((0 : Int32)).toInt := tneq c13
        refine zok_ck (show vp_in v1 n1 from vin (by omega) (by omega)) ?_
        refine zok_bind (t_Math_max N hN v2 (v5 + (1 : Int32)) ) (fun z7 hz7 => ?_)
        have h_z7 := hz7
        have q19 := li_1
        have q20 := tadd v1 (1 : Int32) (by omega) (by omega)
        refine zok_bind (hkr s0 n1 (upd f1 (Int32.toNatClampNeg v1) v5) (v1 + (1 : Int32)) z7 v3 h_s0 (show (1 : Int) ≤ ((zI s0 1)).toInt ∧ ((zI s0 1)).toInt ≤ 2 from ⟨by omega, by omega⟩) h_n1 (show (0 : Int) ≤ ((v1 + (1 : Int32))).toInt ∧ ((v1 + (1 : Int32))).toInt ≤ 8 from ⟨by omega, by omega⟩) (show (0 : Int) ≤ (v3).toInt ∧ (v3).toInt ≤ 8 from ⟨by omega, by omega⟩) (show 9 - ((v1 + (1 : Int32))).toInt ≤ mr - 1 from by omega)) (fun z9 hz9 => ?_)
        obtain ⟨h_z9_1, h_z9_2⟩ := hz9
        refine zok_ite (fun c21 => ?_) (fun c21 => ?_)
        · have q22 : (z9.1).toInt = ((0 : Int32)).toInt := teq c21
          exact t_Dealer_dealFrom_b66 N hN kr mr kh13 m13 _ _ _ _ _ _ _  hkr hkh13 h_s0 (show (1 : Int) ≤ ((zI s0 0)).toInt ∧ ((zI s0 0)).toInt ≤ 8 from ⟨by omega, by omega⟩) (show (1 : Int) ≤ ((zI s0 1)).toInt ∧ ((zI s0 1)).toInt ≤ 2 from ⟨by omega, by omega⟩) h_n1 (show (0 : Int) ≤ (v1).toInt ∧ (v1).toInt ≤ 7 from ⟨by omega, by omega⟩) (show (0 : Int) ≤ (v2).toInt ∧ (v2).toInt ≤ 2147483647 from ⟨by omega, by omega⟩) (show (1 : Int) ≤ (v3).toInt ∧ (v3).toInt ≤ 8 from ⟨by omega, by omega⟩) (show (0 : Int) ≤ (v5).toInt ∧ (v5).toInt ≤ 7 from ⟨by omega, by omega⟩) (show ((v1 + (1 : Int32))).toInt ≤ ((zI s0 0)).toInt from by omega) (show 9 - (v1).toInt ≤ mr from by omega) (show 9 - (v5).toInt ≤ m13 from by omega)
        · have q23 : (z9.1).toInt ≠ ((0 : Int32)).toInt := tneq c21
          exact zok_some ⟨(show (0 : Int) ≤ ((1 : Int32)).toInt ∧ ((1 : Int32)).toInt ≤ 1 from ⟨by omega, by omega⟩), trivial⟩
theorem t_Dealer_dealFrom_h13 (N : Nat) (hN : 50000000 ≤ N) (kr : zSt → Nat → (Nat → Int32) → Int32 → Int32 → Int32 → Option (Int32 × (Nat → Int32))) (mr : Int) (s0 : zSt) (n1 : Nat) (v1 : Int32) (v2 : Int32) (v3 : Int32) (hkr : ∀ (s0 : zSt) (n1 : Nat) (f1 : (Nat → Int32)) (v1 : Int32) (v2 : Int32) (v3 : Int32), I_Dealer s0 → (1 : Int) ≤ (zI s0 1).toInt ∧ (zI s0 1).toInt ≤ 2 → n1 = 8 → (0 : Int) ≤ (v1).toInt ∧ (v1).toInt ≤ 8 → (0 : Int) ≤ (v3).toInt ∧ (v3).toInt ≤ 8 → 9 - (v1).toInt ≤ mr - 1 → zok (kr s0 n1 f1 v1 v2 v3) (fun z => ((0 : Int) ≤ (z.1).toInt ∧ (z.1).toInt ≤ 1) ∧ True)) (h_s0 : I_Dealer s0) (h_s0_0 : (1 : Int) ≤ (zI s0 0).toInt ∧ (zI s0 0).toInt ≤ 8) (h_s0_1 : (1 : Int) ≤ (zI s0 1).toInt ∧ (zI s0 1).toInt ≤ 2) (h_n1 : n1 = 8) (h_v1 : (0 : Int) ≤ (v1).toInt ∧ (v1).toInt ≤ 7) (h_v3 : (0 : Int) ≤ (v3).toInt ∧ (v3).toInt ≤ 8) (hmr : 9 - (v1).toInt ≤ mr) : ∀ (n : Nat) (f1 : (Nat → Int32)) (v5 : Int32), (0 : Int) ≤ (v5).toInt ∧ (v5).toInt ≤ 8 → ((v1 + (1 : Int32))).toInt ≤ ((zI s0 0)).toInt → 9 - (v5).toInt ≤ (n : Int) → zok (Dealer_dealFrom_h13 N kr s0 n1 v1 v2 v3 n f1 v5) (fun z => ((0 : Int) ≤ (z.1).toInt ∧ (z.1).toInt ≤ 1) ∧ True)
  | 0, f1, v5, h_v5, hx0, hm => absurd hm (by omega)
  | n + 1, f1, v5, h_v5, hx0, hm => by
    rw [Dealer_dealFrom_h13_s]
    exact t_Dealer_dealFrom_b13 N hN kr mr (Dealer_dealFrom_h13 N kr s0 n1 v1 v2 v3 n) ((n + 1 : Nat) : Int) s0 n1 f1 v1 v2 v3 v5  hkr (fun f1 v5 h_v5 hx0 q => t_Dealer_dealFrom_h13 N hN kr mr s0 n1 v1 v2 v3  hkr h_s0 h_s0_0 h_s0_1 h_n1 h_v1 h_v3  hmr n f1 v5 h_v5 hx0 (by omega)) h_s0 h_s0_0 h_s0_1 h_n1 h_v1 h_v3 h_v5 hx0  hmr hm
theorem t_Dealer_dealFrom_b0 (N : Nat) (hN : 50000000 ≤ N) (kr : zSt → Nat → (Nat → Int32) → Int32 → Int32 → Int32 → Option (Int32 × (Nat → Int32))) (mr : Int) (s0 : zSt) (n1 : Nat) (f1 : Nat → Int32) (v1 : Int32) (v2 : Int32) (v3 : Int32) (hkr : ∀ (s0 : zSt) (n1 : Nat) (f1 : (Nat → Int32)) (v1 : Int32) (v2 : Int32) (v3 : Int32), I_Dealer s0 → (1 : Int) ≤ (zI s0 1).toInt ∧ (zI s0 1).toInt ≤ 2 → n1 = 8 → (0 : Int) ≤ (v1).toInt ∧ (v1).toInt ≤ 8 → (0 : Int) ≤ (v3).toInt ∧ (v3).toInt ≤ 8 → 9 - (v1).toInt ≤ mr - 1 → zok (kr s0 n1 f1 v1 v2 v3) (fun z => ((0 : Int) ≤ (z.1).toInt ∧ (z.1).toInt ≤ 1) ∧ True)) (h_s0 : I_Dealer s0) (h_s0_1 : (1 : Int) ≤ (zI s0 1).toInt ∧ (zI s0 1).toInt ≤ 2) (h_n1 : n1 = 8) (h_v1 : (0 : Int) ≤ (v1).toInt ∧ (v1).toInt ≤ 8) (h_v3 : (0 : Int) ≤ (v3).toInt ∧ (v3).toInt ≤ 8) (hmr : 9 - (v1).toInt ≤ mr) : zok (Dealer_dealFrom_b0 N kr s0 n1 f1 v1 v2 v3) (fun z => ((0 : Int) ≤ (z.1).toInt ∧ (z.1).toInt ≤ 1) ∧ True) := by
  rw [Dealer_dealFrom_b0]
  have q2 : (0 : Int) ≤ ((zI s0 0)).toInt ∧ ((zI s0 0)).toInt ≤ 8 := (h_s0).1 0
  refine zok_ite (fun c1 => ?_) (fun c1 => ?_)
  · have q3 : (v1).toInt < ((zI s0 0)).toInt := tlt c1
    have q4 : (0 : Int) ≤ ((zI s0 1)).toInt ∧ ((zI s0 1)).toInt ≤ 2 := (h_s0).1 1
    have q5 := li_0
    have q6 := li_1
    have q7 := tadd v1 (1 : Int32) (by omega) (by omega)
    exact t_Dealer_dealFrom_h13 N hN kr mr _ _ _ _ _  hkr h_s0 (show (1 : Int) ≤ ((zI s0 0)).toInt ∧ ((zI s0 0)).toInt ≤ 8 from ⟨by omega, by omega⟩) (show (1 : Int) ≤ ((zI s0 1)).toInt ∧ ((zI s0 1)).toInt ≤ 2 from ⟨by omega, by omega⟩) h_n1 (show (0 : Int) ≤ (v1).toInt ∧ (v1).toInt ≤ 7 from ⟨by omega, by omega⟩) (show (0 : Int) ≤ (v3).toInt ∧ (v3).toInt ≤ 8 from ⟨by omega, by omega⟩) (show 9 - (v1).toInt ≤ mr from by omega) N _ _ (show (0 : Int) ≤ ((0 : Int32)).toInt ∧ ((0 : Int32)).toInt ≤ 8 from ⟨by omega, by omega⟩) (show ((v1 + (1 : Int32))).toInt ≤ ((zI s0 0)).toInt from by omega) (show 9 - ((0 : Int32)).toInt ≤ (N : Int) from by omega)
  · have q8 : (v1).toInt ≥ ((zI s0 0)).toInt := tnlt c1
    have q9 := li_1
    exact zok_some ⟨(show (0 : Int) ≤ ((1 : Int32)).toInt ∧ ((1 : Int32)).toInt ≤ 1 from ⟨by omega, by omega⟩), trivial⟩
theorem t_Dealer_dealFrom (N : Nat) (hN : 50000000 ≤ N) : ∀ (d : Nat) (s0 : zSt) (n1 : Nat) (f1 : (Nat → Int32)) (v1 : Int32) (v2 : Int32) (v3 : Int32), I_Dealer s0 → (1 : Int) ≤ (zI s0 1).toInt ∧ (zI s0 1).toInt ≤ 2 → n1 = 8 → (0 : Int) ≤ (v1).toInt ∧ (v1).toInt ≤ 8 → (0 : Int) ≤ (v3).toInt ∧ (v3).toInt ≤ 8 → 9 - (v1).toInt ≤ (d : Int) → zok (Dealer_dealFrom N d s0 n1 f1 v1 v2 v3) (fun z => ((0 : Int) ≤ (z.1).toInt ∧ (z.1).toInt ≤ 1) ∧ True)
  | 0, s0, n1, f1, v1, v2, v3, h_s0, h_s0_1, h_n1, h_v1, h_v3, hm => absurd hm (by omega)
  | d + 1, s0, n1, f1, v1, v2, v3, h_s0, h_s0_1, h_n1, h_v1, h_v3, hm => by
    rw [Dealer_dealFrom_s]
    exact t_Dealer_dealFrom_b0 N hN (Dealer_dealFrom N d) ((d + 1 : Nat) : Int) s0 n1 f1 v1 v2 v3  (fun s0 n1 f1 v1 v2 v3 h_s0 h_s0_1 h_n1 h_v1 h_v3 q => t_Dealer_dealFrom N hN d s0 n1 f1 v1 v2 v3 h_s0 h_s0_1 h_n1 h_v1 h_v3 (by omega)) h_s0 h_s0_1 h_n1 h_v1 h_v3  hm
theorem t_Dealer_deal_b75 (N : Nat) (hN : 50000000 ≤ N) (kh75 : zSt → (Nat → Int32) → Int32 → Option (Int32 × zSt × (Nat → Int32))) (m75 : Int) (s0 : zSt) (s1 : zSt) (n2 : Nat) (f2 : Nat → Int32) (v4 : Int32) (gs0 : zSt) (hkh75 : ∀ (s0 : zSt) (f2 : (Nat → Int32)) (v4 : Int32), I_Dealer s0 → (1 : Int) ≤ (zI s0 1).toInt ∧ (zI s0 1).toInt ≤ 2 → (0 : Int) ≤ (v4).toInt ∧ (v4).toInt ≤ 8 → Fr [0, 1] [2] s0 gs0 → 9 - (v4).toInt ≤ m75 - 1 → zok (kh75 s0 f2 v4) (fun z => ((0 : Int) ≤ (z.1).toInt ∧ (z.1).toInt ≤ 8) ∧ I_Dealer z.2.1 ∧ Fr [0, 1] [2] z.2.1 gs0 ∧ True)) (h_s0 : I_Dealer s0) (h_s0_1 : (1 : Int) ≤ (zI s0 1).toInt ∧ (zI s0 1).toInt ≤ 2) (h_s1 : I_Valley s1) (h_s1_9 : (0 : Int) ≤ (zI s1 9).toInt ∧ (zI s1 9).toInt ≤ 8) (h_n2 : n2 = 8) (h_v4 : (0 : Int) ≤ (v4).toInt ∧ (v4).toInt ≤ 8) (g_s0 : Fr [0, 1] [2] s0 gs0) (hm75 : 9 - (v4).toInt ≤ m75) : zok (Dealer_deal_b75 N kh75 s0 s1 n2 f2 v4) (fun z => ((0 : Int) ≤ (z.1).toInt ∧ (z.1).toInt ≤ 8) ∧ I_Dealer z.2.1 ∧ Fr [0, 1] [2] z.2.1 gs0 ∧ True) := by
  rw [Dealer_deal_b75]
  have q2 : (0 : Int) ≤ ((zI s0 0)).toInt ∧ ((zI s0 0)).toInt ≤ 8 := (h_s0).1 0
  refine zok_ite (fun c1 => ?_) (fun c1 => ?_)
  · have q3 : ((zI s0 0)).toInt ≤ (v4).toInt := tle c1
    have q4 : (0 : Int) ≤ ((zI s0 1)).toInt ∧ ((zI s0 1)).toInt ≤ 2 := (h_s0).1 1
    have q5 := li_0
    refine zok_bind (t_Dealer_dealFrom N hN 11 s0 n2 f2 (0 : Int32) (0 : Int32) (zI s0 0) h_s0 (show (1 : Int) ≤ ((zI s0 1)).toInt ∧ ((zI s0 1)).toInt ≤ 2 from ⟨by omega, by omega⟩) h_n2 (show (0 : Int) ≤ ((0 : Int32)).toInt ∧ ((0 : Int32)).toInt ≤ 8 from ⟨by omega, by omega⟩) (show (0 : Int) ≤ ((zI s0 0)).toInt ∧ ((zI s0 0)).toInt ≤ 8 from ⟨by omega, by omega⟩) (show 9 - ((0 : Int32)).toInt ≤ ((11 : Nat) : Int) from by omega)) (fun z2 hz2 => ?_)
    obtain ⟨h_z2_1, h_z2_2⟩ := hz2
    exact zok_some ⟨(show (0 : Int) ≤ ((zI s0 0)).toInt ∧ ((zI s0 0)).toInt ≤ 8 from ⟨by omega, by omega⟩), h_s0, g_s0, trivial⟩
  · have q6 : ((zI s0 0)).toInt > (v4).toInt := tnle c1
    have q7 : (0 : Int) ≤ ((zI s0 1)).toInt ∧ ((zI s0 1)).toInt ≤ 2 := (h_s0).1 1
    have q8 := li_0
    refine zok_bind (t_Dealer_dealFrom N hN 11 s0 n2 f2 (0 : Int32) (0 : Int32) v4 h_s0 (show (1 : Int) ≤ ((zI s0 1)).toInt ∧ ((zI s0 1)).toInt ≤ 2 from ⟨by omega, by omega⟩) h_n2 (show (0 : Int) ≤ ((0 : Int32)).toInt ∧ ((0 : Int32)).toInt ≤ 8 from ⟨by omega, by omega⟩) (show (0 : Int) ≤ (v4).toInt ∧ (v4).toInt ≤ 8 from ⟨by omega, by omega⟩) (show 9 - ((0 : Int32)).toInt ≤ ((11 : Nat) : Int) from by omega)) (fun z4 hz4 => ?_)
    obtain ⟨h_z4_1, h_z4_2⟩ := hz4
    refine zok_ite (fun c9 => ?_) (fun c9 => ?_)
    · have q10 : (z4.1).toInt = ((0 : Int32)).toInt := teq c9
      have q11 := li_1
      have q12 := tadd v4 (1 : Int32) (by omega) (by omega)
      exact hkh75 _ _ _ h_s0 (show (1 : Int) ≤ ((zI s0 1)).toInt ∧ ((zI s0 1)).toInt ≤ 2 from ⟨by omega, by omega⟩) (show (0 : Int) ≤ ((v4 + (1 : Int32))).toInt ∧ ((v4 + (1 : Int32))).toInt ≤ 8 from ⟨by omega, by omega⟩) g_s0 (show 9 - ((v4 + (1 : Int32))).toInt ≤ m75 - 1 by omega)
    · have q13 : (z4.1).toInt ≠ ((0 : Int32)).toInt := tneq c9
      exact zok_some ⟨(show (0 : Int) ≤ (v4).toInt ∧ (v4).toInt ≤ 8 from ⟨by omega, by omega⟩), h_s0, g_s0, trivial⟩
theorem t_Dealer_deal_h75 (N : Nat) (hN : 50000000 ≤ N) (s1 : zSt) (n2 : Nat) (gs0 : zSt) (h_s1 : I_Valley s1) (h_s1_9 : (0 : Int) ≤ (zI s1 9).toInt ∧ (zI s1 9).toInt ≤ 8) (h_n2 : n2 = 8) : ∀ (n : Nat) (s0 : zSt) (f2 : (Nat → Int32)) (v4 : Int32), I_Dealer s0 → (1 : Int) ≤ (zI s0 1).toInt ∧ (zI s0 1).toInt ≤ 2 → (0 : Int) ≤ (v4).toInt ∧ (v4).toInt ≤ 8 → Fr [0, 1] [2] s0 gs0 → 9 - (v4).toInt ≤ (n : Int) → zok (Dealer_deal_h75 N s1 n2 n s0 f2 v4) (fun z => ((0 : Int) ≤ (z.1).toInt ∧ (z.1).toInt ≤ 8) ∧ I_Dealer z.2.1 ∧ Fr [0, 1] [2] z.2.1 gs0 ∧ True)
  | 0, s0, f2, v4, h_s0, h_s0_1, h_v4, g_s0, hm => absurd hm (by omega)
  | n + 1, s0, f2, v4, h_s0, h_s0_1, h_v4, g_s0, hm => by
    rw [Dealer_deal_h75_s]
    exact t_Dealer_deal_b75 N hN (Dealer_deal_h75 N s1 n2 n) ((n + 1 : Nat) : Int) s0 s1 n2 f2 v4 gs0 (fun s0 f2 v4 h_s0 h_s0_1 h_v4 g_s0 q => t_Dealer_deal_h75 N hN  s1 n2 gs0  h_s1 h_s1_9 h_n2   n s0 f2 v4 h_s0 h_s0_1 h_v4 g_s0 (by omega)) h_s0 h_s0_1 h_s1 h_s1_9 h_n2 h_v4 g_s0 hm
theorem t_Dealer_deal_b72 (N : Nat) (hN : 50000000 ≤ N) (s0 : zSt) (s1 : zSt) (n2 : Nat) (f2 : Nat → Int32) (gs0 : zSt) (h_s0 : I_Dealer s0) (h_s0_1 : (1 : Int) ≤ (zI s0 1).toInt ∧ (zI s0 1).toInt ≤ 2) (h_s1 : I_Valley s1) (h_s1_9 : (0 : Int) ≤ (zI s1 9).toInt ∧ (zI s1 9).toInt ≤ 8) (h_n2 : n2 = 8) (g_s0 : Fr [0, 1] [2] s0 gs0) : zok (Dealer_deal_b72 N s0 s1 n2 f2) (fun z => ((0 : Int) ≤ (z.1).toInt ∧ (z.1).toInt ≤ 8) ∧ I_Dealer z.2.1 ∧ Fr [0, 1] [2] z.2.1 gs0 ∧ True) := by
  rw [Dealer_deal_b72]
  have q1 : (0 : Int) ≤ ((zI s1 9)).toInt ∧ ((zI s1 9)).toInt ≤ 9 := (h_s1).1 9
  have q2 : (0 : Int) ≤ ((zI s0 1)).toInt ∧ ((zI s0 1)).toInt ≤ 2 := (h_s0).1 1
  have q3 := li_0
  exact t_Dealer_deal_h75 N hN  _ _ gs0  h_s1 (show (0 : Int) ≤ ((zI s1 9)).toInt ∧ ((zI s1 9)).toInt ≤ 8 from ⟨by omega, by omega⟩) h_n2  N _ _ _ h_s0 (show (1 : Int) ≤ ((zI s0 1)).toInt ∧ ((zI s0 1)).toInt ≤ 2 from ⟨by omega, by omega⟩) (show (0 : Int) ≤ ((0 : Int32)).toInt ∧ ((0 : Int32)).toInt ≤ 8 from ⟨by omega, by omega⟩) g_s0 (show 9 - ((0 : Int32)).toInt ≤ (N : Int) from by omega)
theorem t_Dealer_deal_b66 (N : Nat) (hN : 50000000 ≤ N) (kh13 : zSt → (Nat → Int32) → Int32 → Option (Int32 × zSt × (Nat → Int32))) (m13 : Int) (s0 : zSt) (s1 : zSt) (n2 : Nat) (f2 : Nat → Int32) (v4 : Int32) (gs0 : zSt) (hkh13 : ∀ (s0 : zSt) (f2 : (Nat → Int32)) (v4 : Int32), I_Dealer s0 → (1 : Int) ≤ (zI s0 1).toInt ∧ (zI s0 1).toInt ≤ 2 → (0 : Int) ≤ (v4).toInt ∧ (v4).toInt ≤ 11 → Fr [0, 1] [2] s0 gs0 → 12 - (v4).toInt ≤ m13 - 1 → zok (kh13 s0 f2 v4) (fun z => ((0 : Int) ≤ (z.1).toInt ∧ (z.1).toInt ≤ 8) ∧ I_Dealer z.2.1 ∧ Fr [0, 1] [2] z.2.1 gs0 ∧ True)) (h_s0 : I_Dealer s0) (h_s0_1 : (1 : Int) ≤ (zI s0 1).toInt ∧ (zI s0 1).toInt ≤ 2) (h_s1 : I_Valley s1) (h_s1_3 : (1 : Int) ≤ (zI s1 3).toInt ∧ (zI s1 3).toInt ≤ 11) (h_s1_9 : (0 : Int) ≤ (zI s1 9).toInt ∧ (zI s1 9).toInt ≤ 8) (h_n2 : n2 = 8) (h_v4 : (0 : Int) ≤ (v4).toInt ∧ (v4).toInt ≤ 10) (g_s0 : Fr [0, 1] [2] s0 gs0) (hm13 : 12 - (v4).toInt ≤ m13) : zok (Dealer_deal_b66 N kh13 s0 s1 n2 f2 v4) (fun z => ((0 : Int) ≤ (z.1).toInt ∧ (z.1).toInt ≤ 8) ∧ I_Dealer z.2.1 ∧ Fr [0, 1] [2] z.2.1 gs0 ∧ True) := by
  rw [Dealer_deal_b66]
  have q1 : (0 : Int) ≤ ((zI s0 1)).toInt ∧ ((zI s0 1)).toInt ≤ 2 := (h_s0).1 1
  have q2 := li_1
  have q3 := tadd v4 (1 : Int32) (by omega) (by omega)
  exact hkh13 _ _ _ h_s0 (show (1 : Int) ≤ ((zI s0 1)).toInt ∧ ((zI s0 1)).toInt ≤ 2 from ⟨by omega, by omega⟩) (show (0 : Int) ≤ ((v4 + (1 : Int32))).toInt ∧ ((v4 + (1 : Int32))).toInt ≤ 11 from ⟨by omega, by omega⟩) g_s0 (show 12 - ((v4 + (1 : Int32))).toInt ≤ m13 - 1 by omega)
theorem t_Dealer_deal_b13 (N : Nat) (hN : 50000000 ≤ N) (kh13 : zSt → (Nat → Int32) → Int32 → Option (Int32 × zSt × (Nat → Int32))) (m13 : Int) (s0 : zSt) (s1 : zSt) (n2 : Nat) (f2 : Nat → Int32) (v4 : Int32) (gs0 : zSt) (hkh13 : ∀ (s0 : zSt) (f2 : (Nat → Int32)) (v4 : Int32), I_Dealer s0 → (1 : Int) ≤ (zI s0 1).toInt ∧ (zI s0 1).toInt ≤ 2 → (0 : Int) ≤ (v4).toInt ∧ (v4).toInt ≤ 11 → Fr [0, 1] [2] s0 gs0 → 12 - (v4).toInt ≤ m13 - 1 → zok (kh13 s0 f2 v4) (fun z => ((0 : Int) ≤ (z.1).toInt ∧ (z.1).toInt ≤ 8) ∧ I_Dealer z.2.1 ∧ Fr [0, 1] [2] z.2.1 gs0 ∧ True)) (h_s0 : I_Dealer s0) (h_s0_1 : (1 : Int) ≤ (zI s0 1).toInt ∧ (zI s0 1).toInt ≤ 2) (h_s1 : I_Valley s1) (h_s1_9 : (0 : Int) ≤ (zI s1 9).toInt ∧ (zI s1 9).toInt ≤ 8) (h_n2 : n2 = 8) (h_v4 : (0 : Int) ≤ (v4).toInt ∧ (v4).toInt ≤ 11) (g_s0 : Fr [0, 1] [2] s0 gs0) (hm13 : 12 - (v4).toInt ≤ m13) : zok (Dealer_deal_b13 N kh13 s0 s1 n2 f2 v4) (fun z => ((0 : Int) ≤ (z.1).toInt ∧ (z.1).toInt ≤ 8) ∧ I_Dealer z.2.1 ∧ Fr [0, 1] [2] z.2.1 gs0 ∧ True) := by
  rw [Dealer_deal_b13]
  have q2 : (0 : Int) ≤ ((zI s1 3)).toInt ∧ ((zI s1 3)).toInt ≤ 11 := (h_s1).1 3
  refine zok_ite (fun c1 => ?_) (fun c1 => ?_)
  · have q3 : ((zI s1 3)).toInt ≤ (v4).toInt := tle c1
    have q4 : (0 : Int) ≤ ((zI s0 1)).toInt ∧ ((zI s0 1)).toInt ≤ 2 := (h_s0).1 1
    have q5 : (0 : Int) ≤ ((zI s1 9)).toInt ∧ ((zI s1 9)).toInt ≤ 9 := (h_s1).1 9
    exact t_Dealer_deal_b72 N hN  _ _ _ _ gs0  h_s0 (show (1 : Int) ≤ ((zI s0 1)).toInt ∧ ((zI s0 1)).toInt ≤ 2 from ⟨by omega, by omega⟩) h_s1 (show (0 : Int) ≤ ((zI s1 9)).toInt ∧ ((zI s1 9)).toInt ≤ 8 from ⟨by omega, by omega⟩) h_n2 g_s0 
  · have q6 : ((zI s1 3)).toInt > (v4).toInt := tnle c1
    have q8 := li_8
    have q9 : (0 : Int) ≤ ((zI s0 0)).toInt ∧ ((zI s0 0)).toInt ≤ 8 := (h_s0).1 0
    refine zok_ite (fun c7 => ?_) (fun c7 => ?_)
    · have q10 : ((8 : Int32)).toInt ≤ ((zI s0 0)).toInt := tle c7
      have q11 : (0 : Int) ≤ ((zI s0 1)).toInt ∧ ((zI s0 1)).toInt ≤ 2 := (h_s0).1 1
      have q12 : (0 : Int) ≤ ((zI s1 9)).toInt ∧ ((zI s1 9)).toInt ≤ 9 := (h_s1).1 9
      exact t_Dealer_deal_b72 N hN  _ _ _ _ gs0  h_s0 (show (1 : Int) ≤ ((zI s0 1)).toInt ∧ ((zI s0 1)).toInt ≤ 2 from ⟨by omega, by omega⟩) h_s1 (show (0 : Int) ≤ ((zI s1 9)).toInt ∧ ((zI s1 9)).toInt ≤ 8 from ⟨by omega, by omega⟩) h_n2 g_s0 
    · have q13 : ((8 : Int32)).toInt > ((zI s0 0)).toInt := tnle c7
      refine zok_bind (t_Valley_isBeast N hN s1 v4 h_s1 (show (1 : Int) ≤ ((zI s1 3)).toInt ∧ ((zI s1 3)).toInt ≤ 11 from ⟨by omega, by omega⟩) (show (0 : Int) ≤ (v4).toInt ∧ (v4).toInt ≤ 10 from ⟨by omega, by omega⟩)) (fun z3 hz3 => ?_)
      have h_z3 := hz3
      have q15 := li_0
      refine zok_ite (fun c14 => ?_) (fun c14 => ?_)
      · have q16 : (z3).toInt = ((0 : Int32)).toInt := teq c14
        have q17 : (0 : Int) ≤ ((zI s0 1)).toInt ∧ ((zI s0 1)).toInt ≤ 2 := (h_s0).1 1
        have q18 : (0 : Int) ≤ ((zI s1 9)).toInt ∧ ((zI s1 9)).toInt ≤ 9 := (h_s1).1 9
        exact t_Dealer_deal_b66 N hN kh13 m13 _ _ _ _ _ gs0 hkh13 h_s0 (show (1 : Int) ≤ ((zI s0 1)).toInt ∧ ((zI s0 1)).toInt ≤ 2 from ⟨by omega, by omega⟩) h_s1 (show (1 : Int) ≤ ((zI s1 3)).toInt ∧ ((zI s1 3)).toInt ≤ 11 from ⟨by omega, by omega⟩) (show (0 : Int) ≤ ((zI s1 9)).toInt ∧ ((zI s1 9)).toInt ≤ 8 from ⟨by omega, by omega⟩) h_n2 (show (0 : Int) ≤ (v4).toInt ∧ (v4).toInt ≤ 10 from ⟨by omega, by omega⟩) g_s0 (show 12 - (v4).toInt ≤ m13 from by omega)
      · have q19 : (z3).toInt ≠ ((0 : Int32)).toInt := tneq c14
        refine zok_ck (show vp_in v4 11 from vin (by omega) (by omega)) ?_
        refine zok_ck (show vp_in (zI s0 0) 8 from vin (by omega) (by omega)) ?_
        have q20 : (0 : Int) ≤ (((zA s1 6) (Int32.toNatClampNeg v4))).toInt ∧ (((zA s1 6) (Int32.toNatClampNeg v4))).toInt ≤ 99 := (h_s1).2 6 _
        have q21 := li_1
        have q22 := tadd (zI s0 0) (1 : Int32) (by omega) (by omega)
        have q23 : (0 : Int) ≤ ((zI s0 1)).toInt ∧ ((zI s0 1)).toInt ≤ 2 := (h_s0).1 1
        have q24 : (0 : Int) ≤ ((zI s1 9)).toInt ∧ ((zI s1 9)).toInt ≤ 9 := (h_s1).1 9
        exact t_Dealer_deal_b66 N hN kh13 m13 _ _ _ _ _ gs0 hkh13 (IS.pI 0 ((zI s0 0) + (1 : Int32)) (IS.sA 2 (upd (zA s0 2) (Int32.toNatClampNeg (zI s0 0)) ((zA s1 6) (Int32.toNatClampNeg v4))) h_s0 (show ∀ i, (0 : Int) ≤ ((upd (zA s0 2) (Int32.toNatClampNeg (zI s0 0)) ((zA s1 6) (Int32.toNatClampNeg v4))) i).toInt ∧ ((upd (zA s0 2) (Int32.toNatClampNeg (zI s0 0)) ((zA s1 6) (Int32.toNatClampNeg v4))) i).toInt ≤ 99 from (rgu (fun i => rgm ((h_s0).2 2 i) (by decide) (by decide)) ⟨by omega, by omega⟩))) (show (0 : Int) ≤ (((zI s0 0) + (1 : Int32))).toInt ∧ (((zI s0 0) + (1 : Int32))).toInt ≤ 8 from ⟨by omega, by omega⟩)) (show (1 : Int) ≤ ((zI s0 1)).toInt ∧ ((zI s0 1)).toInt ≤ 2 from ⟨by omega, by omega⟩) h_s1 (show (1 : Int) ≤ ((zI s1 3)).toInt ∧ ((zI s1 3)).toInt ≤ 11 from ⟨by omega, by omega⟩) (show (0 : Int) ≤ ((zI s1 9)).toInt ∧ ((zI s1 9)).toInt ≤ 8 from ⟨by omega, by omega⟩) h_n2 (show (0 : Int) ≤ (v4).toInt ∧ (v4).toInt ≤ 10 from ⟨by omega, by omega⟩) (Fr.pI (Fr.sA g_s0 rfl) rfl) (show 12 - (v4).toInt ≤ m13 from by omega)
theorem t_Dealer_deal_h13 (N : Nat) (hN : 50000000 ≤ N) (s1 : zSt) (n2 : Nat) (gs0 : zSt) (h_s1 : I_Valley s1) (h_s1_9 : (0 : Int) ≤ (zI s1 9).toInt ∧ (zI s1 9).toInt ≤ 8) (h_n2 : n2 = 8) : ∀ (n : Nat) (s0 : zSt) (f2 : (Nat → Int32)) (v4 : Int32), I_Dealer s0 → (1 : Int) ≤ (zI s0 1).toInt ∧ (zI s0 1).toInt ≤ 2 → (0 : Int) ≤ (v4).toInt ∧ (v4).toInt ≤ 11 → Fr [0, 1] [2] s0 gs0 → 12 - (v4).toInt ≤ (n : Int) → zok (Dealer_deal_h13 N s1 n2 n s0 f2 v4) (fun z => ((0 : Int) ≤ (z.1).toInt ∧ (z.1).toInt ≤ 8) ∧ I_Dealer z.2.1 ∧ Fr [0, 1] [2] z.2.1 gs0 ∧ True)
  | 0, s0, f2, v4, h_s0, h_s0_1, h_v4, g_s0, hm => absurd hm (by omega)
  | n + 1, s0, f2, v4, h_s0, h_s0_1, h_v4, g_s0, hm => by
    rw [Dealer_deal_h13_s]
    exact t_Dealer_deal_b13 N hN (Dealer_deal_h13 N s1 n2 n) ((n + 1 : Nat) : Int) s0 s1 n2 f2 v4 gs0 (fun s0 f2 v4 h_s0 h_s0_1 h_v4 g_s0 q => t_Dealer_deal_h13 N hN  s1 n2 gs0  h_s1 h_s1_9 h_n2   n s0 f2 v4 h_s0 h_s0_1 h_v4 g_s0 (by omega)) h_s0 h_s0_1 h_s1 h_s1_9 h_n2 h_v4 g_s0 hm
theorem t_Dealer_deal_b0 (N : Nat) (hN : 50000000 ≤ N) (s0 : zSt) (s1 : zSt) (n2 : Nat) (f2 : Nat → Int32) (v2 : Int32) (gs0 : zSt) (h_s0 : I_Dealer s0) (h_s1 : I_Valley s1) (h_s1_9 : (0 : Int) ≤ (zI s1 9).toInt ∧ (zI s1 9).toInt ≤ 8) (h_n2 : n2 = 8) (h_v2 : (1 : Int) ≤ (v2).toInt ∧ (v2).toInt ≤ 2) (g_s0 : Fr [0, 1] [2] s0 gs0) : zok (Dealer_deal_b0 N s0 s1 n2 f2 v2) (fun z => ((0 : Int) ≤ (z.1).toInt ∧ (z.1).toInt ≤ 8) ∧ I_Dealer z.2.1 ∧ Fr [0, 1] [2] z.2.1 gs0 ∧ True) := by
  rw [Dealer_deal_b0]
  have q1 : (0 : Int) ≤ ((zI s1 9)).toInt ∧ ((zI s1 9)).toInt ≤ 9 := (h_s1).1 9
  have q2 := li_0
  exact t_Dealer_deal_h13 N hN  _ _ gs0  h_s1 (show (0 : Int) ≤ ((zI s1 9)).toInt ∧ ((zI s1 9)).toInt ≤ 8 from ⟨by omega, by omega⟩) h_n2  N _ _ _ (IS.pI 0 (0 : Int32) (IS.pI 1 v2 h_s0 (show (0 : Int) ≤ (v2).toInt ∧ (v2).toInt ≤ 2 from ⟨by omega, by omega⟩)) (show (0 : Int) ≤ ((0 : Int32)).toInt ∧ ((0 : Int32)).toInt ≤ 8 from ⟨by omega, by omega⟩)) (show (1 : Int) ≤ (v2).toInt ∧ (v2).toInt ≤ 2 from ⟨by omega, by omega⟩) (show (0 : Int) ≤ ((0 : Int32)).toInt ∧ ((0 : Int32)).toInt ≤ 11 from ⟨by omega, by omega⟩) (Fr.pI (Fr.pI g_s0 rfl) rfl) (show 12 - ((0 : Int32)).toInt ≤ (N : Int) from by omega)
theorem t_Dealer_deal (N : Nat) (hN : 50000000 ≤ N) (s0 : zSt) (s1 : zSt) (n2 : Nat) (f2 : Nat → Int32) (v2 : Int32) (h_s0 : I_Dealer s0) (h_s1 : I_Valley s1) (h_s1_9 : (0 : Int) ≤ (zI s1 9).toInt ∧ (zI s1 9).toInt ≤ 8) (h_n2 : n2 = 8) (h_v2 : (1 : Int) ≤ (v2).toInt ∧ (v2).toInt ≤ 2) : zok (Dealer_deal N s0 s1 n2 f2 v2) (fun z => ((0 : Int) ≤ (z.1).toInt ∧ (z.1).toInt ≤ 8) ∧ I_Dealer z.2.1 ∧ Fr [0, 1] [2] z.2.1 s0 ∧ True) :=
  t_Dealer_deal_b0 N hN s0 s1 n2 f2 v2 s0 h_s0 h_s1 h_s1_9 h_n2 h_v2 ⟨fun _ _ => rfl, fun _ _ => rfl⟩
theorem t_Earnest_begin_b0 (N : Nat) (hN : 50000000 ≤ N) (s0 : zSt) (s1 : zSt) (gs0 : zSt) (h_s0 : I_Earnest s0) (h_s1 : I_Valley s1) (g_s0 : Fr [0, 1, 2, 3, 4] [5] s0 gs0) : zok (Earnest_begin_b0 N s0 s1) (fun z => I_Earnest z ∧ Fr [0, 1, 2, 3, 4] [5] z gs0) := by
  rw [Earnest_begin_b0]
  have q1 := li_0
  refine zok_bind (t_Arrays_fill N hN 11 (zA s0 5) (0 : Int32) (by decide) (show (0 : Int) ≤ ((0 : Int32)).toInt ∧ ((0 : Int32)).toInt ≤ 0 from ⟨by omega, by omega⟩)) (fun z1 hz1 => ?_)
  have h_z1 := hz1
  exact zok_some ⟨(IS.sA 5 z1 (IS.pI 4 (0 : Int32) (IS.pI 3 (0 : Int32) (IS.pI 2 (0 : Int32) (IS.pI 1 (0 : Int32) (IS.pI 0 (zI s1 8) h_s0 (tr _)) (tr _)) (show (0 : Int) ≤ ((0 : Int32)).toInt ∧ ((0 : Int32)).toInt ≤ 99 from ⟨by omega, by omega⟩)) (show (0 : Int) ≤ ((0 : Int32)).toInt ∧ ((0 : Int32)).toInt ≤ 20 from ⟨by omega, by omega⟩)) (show (0 : Int) ≤ ((0 : Int32)).toInt ∧ ((0 : Int32)).toInt ≤ 200 from ⟨by omega, by omega⟩)) (show ∀ i, (0 : Int) ≤ (z1 i).toInt ∧ (z1 i).toInt ≤ 2 from (h_z1 0 2 (fun i => rgm ((h_s0).2 5 i) (by decide) (by decide)) ⟨by omega, by omega⟩))), (Fr.sA (Fr.pI (Fr.pI (Fr.pI (Fr.pI (Fr.pI g_s0 rfl) rfl) rfl) rfl) rfl) rfl)⟩
theorem t_Earnest_begin (N : Nat) (hN : 50000000 ≤ N) (s0 : zSt) (s1 : zSt) (h_s0 : I_Earnest s0) (h_s1 : I_Valley s1) : zok (Earnest_begin N s0 s1) (fun z => I_Earnest z ∧ Fr [0, 1, 2, 3, 4] [5] z s0) :=
  t_Earnest_begin_b0 N hN s0 s1 s0 h_s0 h_s1 ⟨fun _ _ => rfl, fun _ _ => rfl⟩
theorem t_Earnest_copy_b0 (N : Nat) (hN : 50000000 ≤ N) (s0 : zSt) (s1 : zSt) (gs0 : zSt) (h_s0 : I_Earnest s0) (h_s1 : I_Earnest s1) (g_s0 : Fr [0, 1, 2, 3, 4] [5] s0 gs0) : zok (Earnest_copy_b0 N s0 s1) (fun z => I_Earnest z ∧ Fr [0, 1, 2, 3, 4] [5] z gs0) := by
  rw [Earnest_copy_b0]
  refine zok_cp (by decide) ?_
  have q1 : (0 : Int) ≤ ((zI s1 2)).toInt ∧ ((zI s1 2)).toInt ≤ 99 := (h_s1).1 2
  have q2 : (0 : Int) ≤ ((zI s1 3)).toInt ∧ ((zI s1 3)).toInt ≤ 20 := (h_s1).1 3
  have q3 : (0 : Int) ≤ ((zI s1 4)).toInt ∧ ((zI s1 4)).toInt ≤ 200 := (h_s1).1 4
  exact zok_some ⟨(IS.sA 5 (va_cpy (zA s1 5) (zA s0 5) (Int32.toNatClampNeg (0 : Int32)) (Int32.toNatClampNeg (0 : Int32)) (Int32.toNatClampNeg (11 : Int32))) (IS.pI 4 (zI s1 4) (IS.pI 3 (zI s1 3) (IS.pI 2 (zI s1 2) (IS.pI 1 (zI s1 1) (IS.pI 0 (zI s1 0) h_s0 (tr _)) (tr _)) (show (0 : Int) ≤ ((zI s1 2)).toInt ∧ ((zI s1 2)).toInt ≤ 99 from ⟨by omega, by omega⟩)) (show (0 : Int) ≤ ((zI s1 3)).toInt ∧ ((zI s1 3)).toInt ≤ 20 from ⟨by omega, by omega⟩)) (show (0 : Int) ≤ ((zI s1 4)).toInt ∧ ((zI s1 4)).toInt ≤ 200 from ⟨by omega, by omega⟩)) (show ∀ i, (0 : Int) ≤ ((va_cpy (zA s1 5) (zA s0 5) (Int32.toNatClampNeg (0 : Int32)) (Int32.toNatClampNeg (0 : Int32)) (Int32.toNatClampNeg (11 : Int32))) i).toInt ∧ ((va_cpy (zA s1 5) (zA s0 5) (Int32.toNatClampNeg (0 : Int32)) (Int32.toNatClampNeg (0 : Int32)) (Int32.toNatClampNeg (11 : Int32))) i).toInt ≤ 2 from (rgc (fun i => rgm ((h_s1).2 5 i) (by decide) (by decide)) (fun i => rgm ((h_s0).2 5 i) (by decide) (by decide))))), (Fr.sA (Fr.pI (Fr.pI (Fr.pI (Fr.pI (Fr.pI g_s0 rfl) rfl) rfl) rfl) rfl) rfl)⟩
theorem t_Earnest_copy (N : Nat) (hN : 50000000 ≤ N) (s0 : zSt) (s1 : zSt) (h_s0 : I_Earnest s0) (h_s1 : I_Earnest s1) : zok (Earnest_copy N s0 s1) (fun z => I_Earnest z ∧ Fr [0, 1, 2, 3, 4] [5] z s0) :=
  t_Earnest_copy_b0 N hN s0 s1 s0 h_s0 h_s1 ⟨fun _ _ => rfl, fun _ _ => rfl⟩
theorem t_Earnest_isThere_b0 (N : Nat) (hN : 50000000 ≤ N) (s0 : zSt) (v1 : Int32) (h_s0 : I_Earnest s0) (h_v1 : (0 : Int) ≤ (v1).toInt ∧ (v1).toInt ≤ 10) : zok (Earnest_isThere_b0 N s0 v1) (fun z => ((0 : Int) ≤ (z).toInt ∧ (z).toInt ≤ 1)) := by
  rw [Earnest_isThere_b0]
  refine zok_ite (fun c1 => ?_) (fun c1 => ?_)
  · have q2 := li_1
    exact zok_some (show (0 : Int) ≤ ((1 : Int32)).toInt ∧ ((1 : Int32)).toInt ≤ 1 from ⟨by omega, by omega⟩)
  · have q3 := li_0
    exact zok_some (show (0 : Int) ≤ ((0 : Int32)).toInt ∧ ((0 : Int32)).toInt ≤ 1 from ⟨by omega, by omega⟩)
theorem t_Earnest_isThere (N : Nat) (hN : 50000000 ≤ N) (s0 : zSt) (v1 : Int32) (h_s0 : I_Earnest s0) (h_v1 : (0 : Int) ≤ (v1).toInt ∧ (v1).toInt ≤ 10) : zok (Earnest_isThere N s0 v1) (fun z => ((0 : Int) ≤ (z).toInt ∧ (z).toInt ≤ 1)) :=
  t_Earnest_isThere_b0 N hN s0 v1  h_s0 h_v1 
theorem t_Earnest_isStanding_b0 (N : Nat) (hN : 50000000 ≤ N) (s0 : zSt) (v1 : Int32) (h_s0 : I_Earnest s0) (h_v1 : (0 : Int) ≤ (v1).toInt ∧ (v1).toInt ≤ 10) : zok (Earnest_isStanding_b0 N s0 v1) (fun z => ((0 : Int) ≤ (z).toInt ∧ (z).toInt ≤ 1)) := by
  rw [Earnest_isStanding_b0]
  refine zok_ite (fun c1 => ?_) (fun c1 => ?_)
  · have q2 := li_1
    exact zok_some (show (0 : Int) ≤ ((1 : Int32)).toInt ∧ ((1 : Int32)).toInt ≤ 1 from ⟨by omega, by omega⟩)
  · have q3 := li_0
    exact zok_some (show (0 : Int) ≤ ((0 : Int32)).toInt ∧ ((0 : Int32)).toInt ≤ 1 from ⟨by omega, by omega⟩)
theorem t_Earnest_isStanding (N : Nat) (hN : 50000000 ≤ N) (s0 : zSt) (v1 : Int32) (h_s0 : I_Earnest s0) (h_v1 : (0 : Int) ≤ (v1).toInt ∧ (v1).toInt ≤ 10) : zok (Earnest_isStanding N s0 v1) (fun z => ((0 : Int) ≤ (z).toInt ∧ (z).toInt ≤ 1)) :=
  t_Earnest_isStanding_b0 N hN s0 v1  h_s0 h_v1 
theorem t_Earnest_toneOf_b0 (N : Nat) (hN : 50000000 ≤ N) (s0 : zSt) (s1 : zSt) (v2 : Int32) (h_s0 : I_Earnest s0) (h_s1 : I_Valley s1) (h_v2 : (0 : Int) ≤ (v2).toInt ∧ (v2).toInt ≤ 10) : zok (Earnest_toneOf_b0 N s0 s1 v2) (fun z => True) := by
  rw [Earnest_toneOf_b0]
  refine zok_ck (show vp_in v2 11 from vin (by omega) (by omega)) ?_
  refine zok_ck (show vp_in v2 11 from vin (by omega) (by omega)) ?_
  have q1 := li_12
  refine zok_bind (t_Math_floorMod N hN (((zA s1 5) (Int32.toNatClampNeg v2)) - (((zA s0 5) (Int32.toNatClampNeg v2)) * (zI s0 4))) (12 : Int32) (show (12 : Int) ≤ ((12 : Int32)).toInt ∧ ((12 : Int32)).toInt ≤ 12 from ⟨by omega, by omega⟩)) (fun z3 hz3 => ?_)
  have h_z3 := hz3
  exact zok_some trivial
theorem t_Earnest_toneOf (N : Nat) (hN : 50000000 ≤ N) (s0 : zSt) (s1 : zSt) (v2 : Int32) (h_s0 : I_Earnest s0) (h_s1 : I_Valley s1) (h_v2 : (0 : Int) ≤ (v2).toInt ∧ (v2).toInt ≤ 10) : zok (Earnest_toneOf N s0 s1 v2) (fun z => True) :=
  t_Earnest_toneOf_b0 N hN s0 s1 v2  h_s0 h_s1 h_v2 
theorem t_Valley_loudAt_b0 (N : Nat) (hN : 50000000 ≤ N) (s0 : zSt) (v1 : Int32) (v2 : Int32) (v3 : Int32) (v4 : Int32) (h_s0 : I_Valley s0) (h_v1 : (0 : Int) ≤ (v1).toInt ∧ (v1).toInt ≤ 10) (h_v2 : (0 : Int) ≤ (v2).toInt ∧ (v2).toInt ≤ 3) (h_v3 : (0 : Int) ≤ (v3).toInt ∧ (v3).toInt ≤ 99) (h_v4 : (0 : Int) ≤ (v4).toInt ∧ (v4).toInt ≤ 20) : zok (Valley_loudAt_b0 N s0 v1 v2 v3 v4) (fun z => True) := by
  rw [Valley_loudAt_b0]
  refine zok_ck (show vp_in v2 4 from vin (by omega) (by omega)) ?_
  have q1 : (0 : Int) ≤ (((zA s0 14) (Int32.toNatClampNeg v2))).toInt ∧ (((zA s0 14) (Int32.toNatClampNeg v2))).toInt ≤ 99 := (h_s0).2 14 _
  have q2 := tsub v3 ((zA s0 14) (Int32.toNatClampNeg v2)) (by omega) (by omega)
  refine zok_bind (t_Math_abs N hN (v3 - ((zA s0 14) (Int32.toNatClampNeg v2))) (show (-99 : Int) ≤ ((v3 - ((zA s0 14) (Int32.toNatClampNeg v2)))).toInt ∧ ((v3 - ((zA s0 14) (Int32.toNatClampNeg v2)))).toInt ≤ 99 from ⟨by omega, by omega⟩)) (fun z2 hz2 => ?_)
  have h_z2 := hz2
  refine zok_ck (show vp_in v1 11 from vin (by omega) (by omega)) ?_
  refine zok_bind (t_Math_max N hN (0 : Int32) ((((zA s0 6) (Int32.toNatClampNeg v1)) - z2) - v4) ) (fun z5 hz5 => ?_)
  have h_z5 := hz5
  exact zok_some trivial
theorem t_Valley_loudAt (N : Nat) (hN : 50000000 ≤ N) (s0 : zSt) (v1 : Int32) (v2 : Int32) (v3 : Int32) (v4 : Int32) (h_s0 : I_Valley s0) (h_v1 : (0 : Int) ≤ (v1).toInt ∧ (v1).toInt ≤ 10) (h_v2 : (0 : Int) ≤ (v2).toInt ∧ (v2).toInt ≤ 3) (h_v3 : (0 : Int) ≤ (v3).toInt ∧ (v3).toInt ≤ 99) (h_v4 : (0 : Int) ≤ (v4).toInt ∧ (v4).toInt ≤ 20) : zok (Valley_loudAt N s0 v1 v2 v3 v4) (fun z => True) :=
  t_Valley_loudAt_b0 N hN s0 v1 v2 v3 v4  h_s0 h_v1 h_v2 h_v3 h_v4 
theorem t_Earnest_loudness_b64 (N : Nat) (hN : 50000000 ≤ N) (kh6 : Int32 → Int32 → Option (Int32)) (m6 : Int) (s0 : zSt) (s1 : zSt) (v2 : Int32) (v3 : Int32) (v4 : Int32) (v5 : Int32) (hkh6 : ∀ (v4 : Int32) (v5 : Int32), (0 : Int) ≤ (v5).toInt ∧ (v5).toInt ≤ 11 → 12 - (v5).toInt ≤ m6 - 1 → zok (kh6 v4 v5) (fun z => True)) (h_s0 : I_Earnest s0) (h_s1 : I_Valley s1) (h_s1_3 : (1 : Int) ≤ (zI s1 3).toInt ∧ (zI s1 3).toInt ≤ 11) (h_v2 : (0 : Int) ≤ (v2).toInt ∧ (v2).toInt ≤ 3) (h_v3 : (0 : Int) ≤ (v3).toInt ∧ (v3).toInt ≤ 11) (h_v5 : (0 : Int) ≤ (v5).toInt ∧ (v5).toInt ≤ 10) (hm6 : 12 - (v5).toInt ≤ m6) : zok (Earnest_loudness_b64 N kh6 s0 s1 v2 v3 v4 v5) (fun z => True) := by
  rw [Earnest_loudness_b64]
  have q1 := li_1
  have q2 := tadd v5 (1 : Int32) (by omega) (by omega)
  exact hkh6 _ _ (show (0 : Int) ≤ ((v5 + (1 : Int32))).toInt ∧ ((v5 + (1 : Int32))).toInt ≤ 11 from ⟨by omega, by omega⟩) (show 12 - ((v5 + (1 : Int32))).toInt ≤ m6 - 1 by omega)
theorem t_Earnest_loudness_b6 (N : Nat) (hN : 50000000 ≤ N) (kh6 : Int32 → Int32 → Option (Int32)) (m6 : Int) (s0 : zSt) (s1 : zSt) (v2 : Int32) (v3 : Int32) (v4 : Int32) (v5 : Int32) (hkh6 : ∀ (v4 : Int32) (v5 : Int32), (0 : Int) ≤ (v5).toInt ∧ (v5).toInt ≤ 11 → 12 - (v5).toInt ≤ m6 - 1 → zok (kh6 v4 v5) (fun z => True)) (h_s0 : I_Earnest s0) (h_s1 : I_Valley s1) (h_v2 : (0 : Int) ≤ (v2).toInt ∧ (v2).toInt ≤ 3) (h_v3 : (0 : Int) ≤ (v3).toInt ∧ (v3).toInt ≤ 11) (h_v5 : (0 : Int) ≤ (v5).toInt ∧ (v5).toInt ≤ 11) (hm6 : 12 - (v5).toInt ≤ m6) : zok (Earnest_loudness_b6 N kh6 s0 s1 v2 v3 v4 v5) (fun z => True) := by
  rw [Earnest_loudness_b6]
  have q2 : (0 : Int) ≤ ((zI s1 3)).toInt ∧ ((zI s1 3)).toInt ≤ 11 := (h_s1).1 3
  refine zok_ite (fun c1 => ?_) (fun c1 => ?_)
  · have q3 : ((zI s1 3)).toInt ≤ (v5).toInt := tle c1
    exact zok_some trivial
  · have q4 : ((zI s1 3)).toInt > (v5).toInt := tnle c1
    refine zok_bind (t_Earnest_isThere N hN s0 v5 h_s0 (show (0 : Int) ≤ (v5).toInt ∧ (v5).toInt ≤ 10 from ⟨by omega, by omega⟩)) (fun z2 hz2 => ?_)
    have h_z2 := hz2
    have q6 := li_0
    refine zok_ite (fun c5 => ?_) (fun c5 => ?_)
    · have q7 : (z2).toInt = ((0 : Int32)).toInt := teq c5
      exact t_Earnest_loudness_b64 N hN kh6 m6 _ _ _ _ _ _  hkh6 h_s0 h_s1 (show (1 : Int) ≤ ((zI s1 3)).toInt ∧ ((zI s1 3)).toInt ≤ 11 from ⟨by omega, by omega⟩) (show (0 : Int) ≤ (v2).toInt ∧ (v2).toInt ≤ 3 from ⟨by omega, by omega⟩) (show (0 : Int) ≤ (v3).toInt ∧ (v3).toInt ≤ 11 from ⟨by omega, by omega⟩) (show (0 : Int) ≤ (v5).toInt ∧ (v5).toInt ≤ 10 from ⟨by omega, by omega⟩) (show 12 - (v5).toInt ≤ m6 from by omega)
    · have q8 : (z2).toInt ≠ ((0 : Int32)).toInt := tneq c5
      refine zok_bind (t_Earnest_isStanding N hN s0 v5 h_s0 (show (0 : Int) ≤ (v5).toInt ∧ (v5).toInt ≤ 10 from ⟨by omega, by omega⟩)) (fun z5 hz5 => ?_)
      have h_z5 := hz5
      refine zok_ite (fun c9 => ?_) (fun c9 => ?_)
      · have q10 : (z5).toInt = ((0 : Int32)).toInt := teq c9
        refine zok_bind (t_Earnest_toneOf N hN s0 s1 v5 h_s0 h_s1 (show (0 : Int) ≤ (v5).toInt ∧ (v5).toInt ≤ 10 from ⟨by omega, by omega⟩)) (fun z8 hz8 => ?_)
        have h_z8 := hz8
        have q12 := tr z8
        refine zok_ite (fun c11 => ?_) (fun c11 => ?_)
        · have q13 : (z8).toInt = (v3).toInt := teq c11
          have q14 : (0 : Int) ≤ ((zI s0 2)).toInt ∧ ((zI s0 2)).toInt ≤ 99 := (h_s0).1 2
          have q15 : (0 : Int) ≤ ((zI s0 3)).toInt ∧ ((zI s0 3)).toInt ≤ 20 := (h_s0).1 3
          refine zok_bind (t_Valley_loudAt N hN s1 v5 v2 (zI s0 2) (zI s0 3) h_s1 (show (0 : Int) ≤ (v5).toInt ∧ (v5).toInt ≤ 10 from ⟨by omega, by omega⟩) (show (0 : Int) ≤ (v2).toInt ∧ (v2).toInt ≤ 3 from ⟨by omega, by omega⟩) (show (0 : Int) ≤ ((zI s0 2)).toInt ∧ ((zI s0 2)).toInt ≤ 99 from ⟨by omega, by omega⟩) (show (0 : Int) ≤ ((zI s0 3)).toInt ∧ ((zI s0 3)).toInt ≤ 20 from ⟨by omega, by omega⟩)) (fun z11 hz11 => ?_)
          have h_z11 := hz11
          exact t_Earnest_loudness_b64 N hN kh6 m6 _ _ _ _ _ _  hkh6 h_s0 h_s1 (show (1 : Int) ≤ ((zI s1 3)).toInt ∧ ((zI s1 3)).toInt ≤ 11 from ⟨by omega, by omega⟩) (show (0 : Int) ≤ (v2).toInt ∧ (v2).toInt ≤ 3 from ⟨by omega, by omega⟩) (show (0 : Int) ≤ (v3).toInt ∧ (v3).toInt ≤ 11 from ⟨by omega, by omega⟩) (show (0 : Int) ≤ (v5).toInt ∧ (v5).toInt ≤ 10 from ⟨by omega, by omega⟩) (show 12 - (v5).toInt ≤ m6 from by omega)
        · have q16 : (z8).toInt ≠ (v3).toInt := tneq c11
          exact t_Earnest_loudness_b64 N hN kh6 m6 _ _ _ _ _ _  hkh6 h_s0 h_s1 (show (1 : Int) ≤ ((zI s1 3)).toInt ∧ ((zI s1 3)).toInt ≤ 11 from ⟨by omega, by omega⟩) (show (0 : Int) ≤ (v2).toInt ∧ (v2).toInt ≤ 3 from ⟨by omega, by omega⟩) (show (0 : Int) ≤ (v3).toInt ∧ (v3).toInt ≤ 11 from ⟨by omega, by omega⟩) (show (0 : Int) ≤ (v5).toInt ∧ (v5).toInt ≤ 10 from ⟨by omega, by omega⟩) (show 12 - (v5).toInt ≤ m6 from by omega)
      · have q17 : (z5).toInt ≠ ((0 : Int32)).toInt := tneq c9
        exact t_Earnest_loudness_b64 N hN kh6 m6 _ _ _ _ _ _  hkh6 h_s0 h_s1 (show (1 : Int) ≤ ((zI s1 3)).toInt ∧ ((zI s1 3)).toInt ≤ 11 from ⟨by omega, by omega⟩) (show (0 : Int) ≤ (v2).toInt ∧ (v2).toInt ≤ 3 from ⟨by omega, by omega⟩) (show (0 : Int) ≤ (v3).toInt ∧ (v3).toInt ≤ 11 from ⟨by omega, by omega⟩) (show (0 : Int) ≤ (v5).toInt ∧ (v5).toInt ≤ 10 from ⟨by omega, by omega⟩) (show 12 - (v5).toInt ≤ m6 from by omega)
theorem t_Earnest_loudness_h6 (N : Nat) (hN : 50000000 ≤ N) (s0 : zSt) (s1 : zSt) (v2 : Int32) (v3 : Int32) (h_s0 : I_Earnest s0) (h_s1 : I_Valley s1) (h_v2 : (0 : Int) ≤ (v2).toInt ∧ (v2).toInt ≤ 3) (h_v3 : (0 : Int) ≤ (v3).toInt ∧ (v3).toInt ≤ 11) : ∀ (n : Nat) (v4 : Int32) (v5 : Int32), (0 : Int) ≤ (v5).toInt ∧ (v5).toInt ≤ 11 → 12 - (v5).toInt ≤ (n : Int) → zok (Earnest_loudness_h6 N s0 s1 v2 v3 n v4 v5) (fun z => True)
  | 0, v4, v5, h_v5, hm => absurd hm (by omega)
  | n + 1, v4, v5, h_v5, hm => by
    rw [Earnest_loudness_h6_s]
    exact t_Earnest_loudness_b6 N hN (Earnest_loudness_h6 N s0 s1 v2 v3 n) ((n + 1 : Nat) : Int) s0 s1 v2 v3 v4 v5  (fun v4 v5 h_v5 q => t_Earnest_loudness_h6 N hN  s0 s1 v2 v3   h_s0 h_s1 h_v2 h_v3   n v4 v5 h_v5 (by omega)) h_s0 h_s1 h_v2 h_v3 h_v5  hm
theorem t_Earnest_loudness_b0 (N : Nat) (hN : 50000000 ≤ N) (s0 : zSt) (s1 : zSt) (v2 : Int32) (v3 : Int32) (h_s0 : I_Earnest s0) (h_s1 : I_Valley s1) (h_v2 : (0 : Int) ≤ (v2).toInt ∧ (v2).toInt ≤ 3) (h_v3 : (0 : Int) ≤ (v3).toInt ∧ (v3).toInt ≤ 11) : zok (Earnest_loudness_b0 N s0 s1 v2 v3) (fun z => True) := by
  rw [Earnest_loudness_b0]
  have q1 := li_0
  exact t_Earnest_loudness_h6 N hN  _ _ _ _   h_s0 h_s1 (show (0 : Int) ≤ (v2).toInt ∧ (v2).toInt ≤ 3 from ⟨by omega, by omega⟩) (show (0 : Int) ≤ (v3).toInt ∧ (v3).toInt ≤ 11 from ⟨by omega, by omega⟩)  N _ _ (show (0 : Int) ≤ ((0 : Int32)).toInt ∧ ((0 : Int32)).toInt ≤ 11 from ⟨by omega, by omega⟩) (show 12 - ((0 : Int32)).toInt ≤ (N : Int) from by omega)
theorem t_Earnest_loudness (N : Nat) (hN : 50000000 ≤ N) (s0 : zSt) (s1 : zSt) (v2 : Int32) (v3 : Int32) (h_s0 : I_Earnest s0) (h_s1 : I_Valley s1) (h_v2 : (0 : Int) ≤ (v2).toInt ∧ (v2).toInt ≤ 3) (h_v3 : (0 : Int) ≤ (v3).toInt ∧ (v3).toInt ≤ 11) : zok (Earnest_loudness N s0 s1 v2 v3) (fun z => True) :=
  t_Earnest_loudness_b0 N hN s0 s1 v2 v3  h_s0 h_s1 h_v2 h_v3 
theorem t_Entries_add_b94 (N : Nat) (hN : 50000000 ≤ N) (s0 : zSt) (gs0 : zSt) (h_s0 : I_Entries s0) (h_s0_0 : (1 : Int) ≤ (zI s0 0).toInt ∧ (zI s0 0).toInt ≤ 40) (g_s0 : Fr [0] [1, 2, 3, 4, 5, 6, 7] s0 gs0) : zok (Entries_add_b94 N s0) (fun z => ((-1 : Int) ≤ (z.1).toInt ∧ (z.1).toInt ≤ 39) ∧ I_Entries z.2 ∧ Fr [0] [1, 2, 3, 4, 5, 6, 7] z.2 gs0) := by
  rw [Entries_add_b94]
  have q1 : (0 : Int) ≤ ((zI s0 0)).toInt ∧ ((zI s0 0)).toInt ≤ 40 := (h_s0).1 0
  have q2 := li_1
  have q3 := tsub (zI s0 0) (1 : Int32) (by omega) (by omega)
  exact zok_some ⟨(show (-1 : Int) ≤ (((zI s0 0) - (1 : Int32))).toInt ∧ (((zI s0 0) - (1 : Int32))).toInt ≤ 39 from ⟨by omega, by omega⟩), h_s0, g_s0⟩
theorem t_Entries_add_b84 (N : Nat) (hN : 50000000 ≤ N) (s0 : zSt) (gs0 : zSt) (h_s0 : I_Entries s0) (h_s0_0 : (0 : Int) ≤ (zI s0 0).toInt ∧ (zI s0 0).toInt ≤ 39) (g_s0 : Fr [0] [1, 2, 3, 4, 5, 6, 7] s0 gs0) : zok (Entries_add_b84 N s0) (fun z => ((-1 : Int) ≤ (z.1).toInt ∧ (z.1).toInt ≤ 39) ∧ I_Entries z.2 ∧ Fr [0] [1, 2, 3, 4, 5, 6, 7] z.2 gs0) := by
  rw [Entries_add_b84]
  have q1 : (0 : Int) ≤ ((zI s0 0)).toInt ∧ ((zI s0 0)).toInt ≤ 40 := (h_s0).1 0
  have q2 := li_1
  have q3 := tadd (zI s0 0) (1 : Int32) (by omega) (by omega)
  exact t_Entries_add_b94 N hN  _ gs0  (IS.pI 0 ((zI s0 0) + (1 : Int32)) h_s0 (show (0 : Int) ≤ (((zI s0 0) + (1 : Int32))).toInt ∧ (((zI s0 0) + (1 : Int32))).toInt ≤ 40 from ⟨by omega, by omega⟩)) (show (1 : Int) ≤ (((zI s0 0) + (1 : Int32))).toInt ∧ (((zI s0 0) + (1 : Int32))).toInt ≤ 40 from ⟨by omega, by omega⟩) (Fr.pI g_s0 rfl) 
theorem t_Entries_add_b0 (N : Nat) (hN : 50000000 ≤ N) (s0 : zSt) (v1 : Int32) (v2 : Int32) (v3 : Int32) (v4 : Int32) (v5 : Int32) (v6 : Int32) (gs0 : zSt) (h_s0 : I_Entries s0) (h_v1 : (0 : Int) ≤ (v1).toInt ∧ (v1).toInt ≤ 95) (h_v2 : (-1 : Int) ≤ (v2).toInt ∧ (v2).toInt ≤ 3) (h_v3 : (0 : Int) ≤ (v3).toInt ∧ (v3).toInt ≤ 4095) (h_v4 : (0 : Int) ≤ (v4).toInt ∧ (v4).toInt ≤ 999) (h_v5 : (0 : Int) ≤ (v5).toInt ∧ (v5).toInt ≤ 999) (h_v6 : (0 : Int) ≤ (v6).toInt ∧ (v6).toInt ≤ 100000) (g_s0 : Fr [0] [1, 2, 3, 4, 5, 6, 7] s0 gs0) : zok (Entries_add_b0 N s0 v1 v2 v3 v4 v5 v6) (fun z => ((-1 : Int) ≤ (z.1).toInt ∧ (z.1).toInt ≤ 39) ∧ I_Entries z.2 ∧ Fr [0] [1, 2, 3, 4, 5, 6, 7] z.2 gs0) := by
  rw [Entries_add_b0]
  have q2 : (0 : Int) ≤ ((zI s0 0)).toInt ∧ ((zI s0 0)).toInt ≤ 40 := (h_s0).1 0
  have q3 := li_40
  refine zok_ite (fun c1 => ?_) (fun c1 => ?_)
  · have q4 : ((zI s0 0)).toInt < ((40 : Int32)).toInt := tlt c1
    refine zok_ck (show vp_in (zI s0 0) 40 from vin (by omega) (by omega)) ?_
    refine zok_ck (show vp_in (zI s0 0) 40 from vin (by omega) (by omega)) ?_
    refine zok_ck (show vp_in (zI s0 0) 40 from vin (by omega) (by omega)) ?_
    refine zok_ck (show vp_in (zI s0 0) 40 from vin (by omega) (by omega)) ?_
    refine zok_ck (show vp_in (zI s0 0) 40 from vin (by omega) (by omega)) ?_
    refine zok_ck (show vp_in (zI s0 0) 40 from vin (by omega) (by omega)) ?_
    refine zok_ck (show vp_in (zI s0 0) 40 from vin (by omega) (by omega)) ?_
    exact t_Entries_add_b84 N hN  _ gs0  (IS.sA 7 (upd (zA s0 7) (Int32.toNatClampNeg (zI s0 0)) ((-1) : Int32)) (IS.sA 6 (upd (zA s0 6) (Int32.toNatClampNeg (zI s0 0)) v6) (IS.sA 5 (upd (zA s0 5) (Int32.toNatClampNeg (zI s0 0)) v5) (IS.sA 4 (upd (zA s0 4) (Int32.toNatClampNeg (zI s0 0)) v4) (IS.sA 3 (upd (zA s0 3) (Int32.toNatClampNeg (zI s0 0)) v3) (IS.sA 2 (upd (zA s0 2) (Int32.toNatClampNeg (zI s0 0)) v2) (IS.sA 1 (upd (zA s0 1) (Int32.toNatClampNeg (zI s0 0)) v1) h_s0 (fun _ => tr _)) (show ∀ i, (-1 : Int) ≤ ((upd (zA s0 2) (Int32.toNatClampNeg (zI s0 0)) v2) i).toInt ∧ ((upd (zA s0 2) (Int32.toNatClampNeg (zI s0 0)) v2) i).toInt ≤ 3 from (rgu (fun i => rgm ((h_s0).2 2 i) (by decide) (by decide)) ⟨by omega, by omega⟩))) (fun _ => tr _)) (fun _ => tr _)) (fun _ => tr _)) (fun _ => tr _)) (fun _ => tr _)) (show (0 : Int) ≤ ((zI s0 0)).toInt ∧ ((zI s0 0)).toInt ≤ 39 from ⟨by omega, by omega⟩) (Fr.sA (Fr.sA (Fr.sA (Fr.sA (Fr.sA (Fr.sA (Fr.sA g_s0 rfl) rfl) rfl) rfl) rfl) rfl) rfl) 
  · have q5 : ((zI s0 0)).toInt ≥ ((40 : Int32)).toInt := tnlt c1
    have q6 := li_m1
    exact zok_some ⟨(show (-1 : Int) ≤ (((-1) : Int32)).toInt ∧ (((-1) : Int32)).toInt ≤ 39 from ⟨by omega, by omega⟩), h_s0, g_s0⟩
theorem t_Entries_add (N : Nat) (hN : 50000000 ≤ N) (s0 : zSt) (v1 : Int32) (v2 : Int32) (v3 : Int32) (v4 : Int32) (v5 : Int32) (v6 : Int32) (h_s0 : I_Entries s0) (h_v1 : (0 : Int) ≤ (v1).toInt ∧ (v1).toInt ≤ 95) (h_v2 : (-1 : Int) ≤ (v2).toInt ∧ (v2).toInt ≤ 3) (h_v3 : (0 : Int) ≤ (v3).toInt ∧ (v3).toInt ≤ 4095) (h_v4 : (0 : Int) ≤ (v4).toInt ∧ (v4).toInt ≤ 999) (h_v5 : (0 : Int) ≤ (v5).toInt ∧ (v5).toInt ≤ 999) (h_v6 : (0 : Int) ≤ (v6).toInt ∧ (v6).toInt ≤ 100000) : zok (Entries_add N s0 v1 v2 v3 v4 v5 v6) (fun z => ((-1 : Int) ≤ (z.1).toInt ∧ (z.1).toInt ≤ 39) ∧ I_Entries z.2 ∧ Fr [0] [1, 2, 3, 4, 5, 6, 7] z.2 s0) :=
  t_Entries_add_b0 N hN s0 v1 v2 v3 v4 v5 v6 s0 h_s0 h_v1 h_v2 h_v3 h_v4 h_v5 h_v6 ⟨fun _ _ => rfl, fun _ _ => rfl⟩
theorem t_Valley_loudness_b52 (N : Nat) (hN : 50000000 ≤ N) (kh6 : Int32 → Int32 → Option (Int32)) (m6 : Int) (s0 : zSt) (v1 : Int32) (v2 : Int32) (v3 : Int32) (v4 : Int32) (v5 : Int32) (v6 : Int32) (v7 : Int32) (hkh6 : ∀ (v6 : Int32) (v7 : Int32), (0 : Int) ≤ (v7).toInt ∧ (v7).toInt ≤ 11 → 12 - (v7).toInt ≤ m6 - 1 → zok (kh6 v6 v7) (fun z => True)) (h_s0 : I_Valley s0) (h_s0_3 : (1 : Int) ≤ (zI s0 3).toInt ∧ (zI s0 3).toInt ≤ 11) (h_v1 : (0 : Int) ≤ (v1).toInt ∧ (v1).toInt ≤ 2047) (h_v3 : (0 : Int) ≤ (v3).toInt ∧ (v3).toInt ≤ 3) (h_v4 : (0 : Int) ≤ (v4).toInt ∧ (v4).toInt ≤ 99) (h_v5 : (0 : Int) ≤ (v5).toInt ∧ (v5).toInt ≤ 20) (h_v7 : (0 : Int) ≤ (v7).toInt ∧ (v7).toInt ≤ 10) (hm6 : 12 - (v7).toInt ≤ m6) : zok (Valley_loudness_b52 N kh6 s0 v1 v2 v3 v4 v5 v6 v7) (fun z => True) := by
  rw [Valley_loudness_b52]
  have q1 := li_1
  have q2 := tadd v7 (1 : Int32) (by omega) (by omega)
  exact hkh6 _ _ (show (0 : Int) ≤ ((v7 + (1 : Int32))).toInt ∧ ((v7 + (1 : Int32))).toInt ≤ 11 from ⟨by omega, by omega⟩) (show 12 - ((v7 + (1 : Int32))).toInt ≤ m6 - 1 by omega)
theorem t_Valley_loudness_b6 (N : Nat) (hN : 50000000 ≤ N) (kh6 : Int32 → Int32 → Option (Int32)) (m6 : Int) (s0 : zSt) (v1 : Int32) (v2 : Int32) (v3 : Int32) (v4 : Int32) (v5 : Int32) (v6 : Int32) (v7 : Int32) (hkh6 : ∀ (v6 : Int32) (v7 : Int32), (0 : Int) ≤ (v7).toInt ∧ (v7).toInt ≤ 11 → 12 - (v7).toInt ≤ m6 - 1 → zok (kh6 v6 v7) (fun z => True)) (h_s0 : I_Valley s0) (h_v1 : (0 : Int) ≤ (v1).toInt ∧ (v1).toInt ≤ 2047) (h_v3 : (0 : Int) ≤ (v3).toInt ∧ (v3).toInt ≤ 3) (h_v4 : (0 : Int) ≤ (v4).toInt ∧ (v4).toInt ≤ 99) (h_v5 : (0 : Int) ≤ (v5).toInt ∧ (v5).toInt ≤ 20) (h_v7 : (0 : Int) ≤ (v7).toInt ∧ (v7).toInt ≤ 11) (hm6 : 12 - (v7).toInt ≤ m6) : zok (Valley_loudness_b6 N kh6 s0 v1 v2 v3 v4 v5 v6 v7) (fun z => True) := by
  rw [Valley_loudness_b6]
  have q2 : (0 : Int) ≤ ((zI s0 3)).toInt ∧ ((zI s0 3)).toInt ≤ 11 := (h_s0).1 3
  refine zok_ite (fun c1 => ?_) (fun c1 => ?_)
  · have q3 : ((zI s0 3)).toInt ≤ (v7).toInt := tle c1
    exact zok_some trivial
  · have q4 : ((zI s0 3)).toInt > (v7).toInt := tnle c1
    refine zok_ite (fun c5 => ?_) (fun c5 => ?_)
    · refine zok_ck (show vp_in v7 11 from vin (by omega) (by omega)) ?_
      have q7 : (0 : Int) ≤ (((zA s0 5) (Int32.toNatClampNeg v7))).toInt ∧ (((zA s0 5) (Int32.toNatClampNeg v7))).toInt ≤ 11 := (h_s0).2 5 _
      have q8 := tr v2
      refine zok_ite (fun c6 => ?_) (fun c6 => ?_)
      · have q9 : (((zA s0 5) (Int32.toNatClampNeg v7))).toInt = (v2).toInt := teq c6
        refine zok_bind (t_Valley_loudAt N hN s0 v7 v3 v4 v5 h_s0 (show (0 : Int) ≤ (v7).toInt ∧ (v7).toInt ≤ 10 from ⟨by omega, by omega⟩) (show (0 : Int) ≤ (v3).toInt ∧ (v3).toInt ≤ 3 from ⟨by omega, by omega⟩) (show (0 : Int) ≤ (v4).toInt ∧ (v4).toInt ≤ 99 from ⟨by omega, by omega⟩) (show (0 : Int) ≤ (v5).toInt ∧ (v5).toInt ≤ 20 from ⟨by omega, by omega⟩)) (fun z5 hz5 => ?_)
        have h_z5 := hz5
        exact t_Valley_loudness_b52 N hN kh6 m6 _ _ _ _ _ _ _ _  hkh6 h_s0 (show (1 : Int) ≤ ((zI s0 3)).toInt ∧ ((zI s0 3)).toInt ≤ 11 from ⟨by omega, by omega⟩) (show (0 : Int) ≤ (v1).toInt ∧ (v1).toInt ≤ 2047 from ⟨by omega, by omega⟩) (show (0 : Int) ≤ (v3).toInt ∧ (v3).toInt ≤ 3 from ⟨by omega, by omega⟩) (show (0 : Int) ≤ (v4).toInt ∧ (v4).toInt ≤ 99 from ⟨by omega, by omega⟩) (show (0 : Int) ≤ (v5).toInt ∧ (v5).toInt ≤ 20 from ⟨by omega, by omega⟩) (show (0 : Int) ≤ (v7).toInt ∧ (v7).toInt ≤ 10 from ⟨by omega, by omega⟩) (show 12 - (v7).toInt ≤ m6 from by omega)
      · have q10 : (((zA s0 5) (Int32.toNatClampNeg v7))).toInt ≠ (v2).toInt := tneq c6
        exact t_Valley_loudness_b52 N hN kh6 m6 _ _ _ _ _ _ _ _  hkh6 h_s0 (show (1 : Int) ≤ ((zI s0 3)).toInt ∧ ((zI s0 3)).toInt ≤ 11 from ⟨by omega, by omega⟩) (show (0 : Int) ≤ (v1).toInt ∧ (v1).toInt ≤ 2047 from ⟨by omega, by omega⟩) (show (0 : Int) ≤ (v3).toInt ∧ (v3).toInt ≤ 3 from ⟨by omega, by omega⟩) (show (0 : Int) ≤ (v4).toInt ∧ (v4).toInt ≤ 99 from ⟨by omega, by omega⟩) (show (0 : Int) ≤ (v5).toInt ∧ (v5).toInt ≤ 20 from ⟨by omega, by omega⟩) (show (0 : Int) ≤ (v7).toInt ∧ (v7).toInt ≤ 10 from ⟨by omega, by omega⟩) (show 12 - (v7).toInt ≤ m6 from by omega)
    · exact t_Valley_loudness_b52 N hN kh6 m6 _ _ _ _ _ _ _ _  hkh6 h_s0 (show (1 : Int) ≤ ((zI s0 3)).toInt ∧ ((zI s0 3)).toInt ≤ 11 from ⟨by omega, by omega⟩) (show (0 : Int) ≤ (v1).toInt ∧ (v1).toInt ≤ 2047 from ⟨by omega, by omega⟩) (show (0 : Int) ≤ (v3).toInt ∧ (v3).toInt ≤ 3 from ⟨by omega, by omega⟩) (show (0 : Int) ≤ (v4).toInt ∧ (v4).toInt ≤ 99 from ⟨by omega, by omega⟩) (show (0 : Int) ≤ (v5).toInt ∧ (v5).toInt ≤ 20 from ⟨by omega, by omega⟩) (show (0 : Int) ≤ (v7).toInt ∧ (v7).toInt ≤ 10 from ⟨by omega, by omega⟩) (show 12 - (v7).toInt ≤ m6 from by omega)
theorem t_Valley_loudness_h6 (N : Nat) (hN : 50000000 ≤ N) (s0 : zSt) (v1 : Int32) (v2 : Int32) (v3 : Int32) (v4 : Int32) (v5 : Int32) (h_s0 : I_Valley s0) (h_v1 : (0 : Int) ≤ (v1).toInt ∧ (v1).toInt ≤ 2047) (h_v3 : (0 : Int) ≤ (v3).toInt ∧ (v3).toInt ≤ 3) (h_v4 : (0 : Int) ≤ (v4).toInt ∧ (v4).toInt ≤ 99) (h_v5 : (0 : Int) ≤ (v5).toInt ∧ (v5).toInt ≤ 20) : ∀ (n : Nat) (v6 : Int32) (v7 : Int32), (0 : Int) ≤ (v7).toInt ∧ (v7).toInt ≤ 11 → 12 - (v7).toInt ≤ (n : Int) → zok (Valley_loudness_h6 N s0 v1 v2 v3 v4 v5 n v6 v7) (fun z => True)
  | 0, v6, v7, h_v7, hm => absurd hm (by omega)
  | n + 1, v6, v7, h_v7, hm => by
    rw [Valley_loudness_h6_s]
    exact t_Valley_loudness_b6 N hN (Valley_loudness_h6 N s0 v1 v2 v3 v4 v5 n) ((n + 1 : Nat) : Int) s0 v1 v2 v3 v4 v5 v6 v7  (fun v6 v7 h_v7 q => t_Valley_loudness_h6 N hN  s0 v1 v2 v3 v4 v5   h_s0 h_v1 h_v3 h_v4 h_v5   n v6 v7 h_v7 (by omega)) h_s0 h_v1 h_v3 h_v4 h_v5 h_v7  hm
theorem t_Valley_loudness_b0 (N : Nat) (hN : 50000000 ≤ N) (s0 : zSt) (v1 : Int32) (v2 : Int32) (v3 : Int32) (v4 : Int32) (v5 : Int32) (h_s0 : I_Valley s0) (h_v1 : (0 : Int) ≤ (v1).toInt ∧ (v1).toInt ≤ 2047) (h_v3 : (0 : Int) ≤ (v3).toInt ∧ (v3).toInt ≤ 3) (h_v4 : (0 : Int) ≤ (v4).toInt ∧ (v4).toInt ≤ 99) (h_v5 : (0 : Int) ≤ (v5).toInt ∧ (v5).toInt ≤ 20) : zok (Valley_loudness_b0 N s0 v1 v2 v3 v4 v5) (fun z => True) := by
  rw [Valley_loudness_b0]
  have q1 := li_0
  exact t_Valley_loudness_h6 N hN  _ _ _ _ _ _   h_s0 (show (0 : Int) ≤ (v1).toInt ∧ (v1).toInt ≤ 2047 from ⟨by omega, by omega⟩) (show (0 : Int) ≤ (v3).toInt ∧ (v3).toInt ≤ 3 from ⟨by omega, by omega⟩) (show (0 : Int) ≤ (v4).toInt ∧ (v4).toInt ≤ 99 from ⟨by omega, by omega⟩) (show (0 : Int) ≤ (v5).toInt ∧ (v5).toInt ≤ 20 from ⟨by omega, by omega⟩)  N _ _ (show (0 : Int) ≤ ((0 : Int32)).toInt ∧ ((0 : Int32)).toInt ≤ 11 from ⟨by omega, by omega⟩) (show 12 - ((0 : Int32)).toInt ≤ (N : Int) from by omega)
theorem t_Valley_loudness (N : Nat) (hN : 50000000 ≤ N) (s0 : zSt) (v1 : Int32) (v2 : Int32) (v3 : Int32) (v4 : Int32) (v5 : Int32) (h_s0 : I_Valley s0) (h_v1 : (0 : Int) ≤ (v1).toInt ∧ (v1).toInt ≤ 2047) (h_v3 : (0 : Int) ≤ (v3).toInt ∧ (v3).toInt ≤ 3) (h_v4 : (0 : Int) ≤ (v4).toInt ∧ (v4).toInt ≤ 99) (h_v5 : (0 : Int) ≤ (v5).toInt ∧ (v5).toInt ≤ 20) : zok (Valley_loudness N s0 v1 v2 v3 v4 v5) (fun z => True) :=
  t_Valley_loudness_b0 N hN s0 v1 v2 v3 v4 v5  h_s0 h_v1 h_v3 h_v4 h_v5 
theorem t_Parting_isSo_b111 (N : Nat) (hN : 50000000 ≤ N) (kh13 : Int32 → Option (Int32)) (m13 : Int) (s0 : zSt) (s1 : zSt) (s2 : zSt) (v1 : Int32) (v4 : Int32) (v5 : Int32) (v6 : Int32) (hkh13 : ∀ (v6 : Int32), (0 : Int) ≤ (v6).toInt ∧ (v6).toInt ≤ 12 → 13 - (v6).toInt ≤ m13 - 1 → zok (kh13 v6) (fun z => ((0 : Int) ≤ (z).toInt ∧ (z).toInt ≤ 1))) (h_s0 : I_Parting s0) (h_s0_0 : (1 : Int) ≤ (zI s0 0).toInt ∧ (zI s0 0).toInt ≤ 1) (h_s1 : I_Valley s1) (h_s2 : I_Bounds s2) (h_v1 : (0 : Int) ≤ (v1).toInt ∧ (v1).toInt ≤ 2047) (h_v4 : (0 : Int) ≤ (v4).toInt ∧ (v4).toInt ≤ 20) (h_v5 : (0 : Int) ≤ (v5).toInt ∧ (v5).toInt ≤ 2047) (h_v6 : (0 : Int) ≤ (v6).toInt ∧ (v6).toInt ≤ 11) (hm13 : 13 - (v6).toInt ≤ m13) : zok (Parting_isSo_b111 N kh13 s0 s1 s2 v1 v4 v5 v6) (fun z => ((0 : Int) ≤ (z).toInt ∧ (z).toInt ≤ 1)) := by
  rw [Parting_isSo_b111]
  have q1 := li_1
  have q2 := tadd v6 (1 : Int32) (by omega) (by omega)
  exact hkh13 _ (show (0 : Int) ≤ ((v6 + (1 : Int32))).toInt ∧ ((v6 + (1 : Int32))).toInt ≤ 12 from ⟨by omega, by omega⟩) (show 13 - ((v6 + (1 : Int32))).toInt ≤ m13 - 1 by omega)
theorem t_Parting_isSo_b65 (N : Nat) (hN : 50000000 ≤ N) (kh13 : Int32 → Option (Int32)) (m13 : Int) (s0 : zSt) (s1 : zSt) (s2 : zSt) (v1 : Int32) (v4 : Int32) (v5 : Int32) (v6 : Int32) (hkh13 : ∀ (v6 : Int32), (0 : Int) ≤ (v6).toInt ∧ (v6).toInt ≤ 12 → 13 - (v6).toInt ≤ m13 - 1 → zok (kh13 v6) (fun z => ((0 : Int) ≤ (z).toInt ∧ (z).toInt ≤ 1))) (h_s0 : I_Parting s0) (h_s0_0 : (1 : Int) ≤ (zI s0 0).toInt ∧ (zI s0 0).toInt ≤ 1) (h_s1 : I_Valley s1) (h_s2 : I_Bounds s2) (h_v1 : (0 : Int) ≤ (v1).toInt ∧ (v1).toInt ≤ 2047) (h_v4 : (0 : Int) ≤ (v4).toInt ∧ (v4).toInt ≤ 20) (h_v5 : (0 : Int) ≤ (v5).toInt ∧ (v5).toInt ≤ 2047) (h_v6 : (0 : Int) ≤ (v6).toInt ∧ (v6).toInt ≤ 11) (hm13 : 13 - (v6).toInt ≤ m13) : zok (Parting_isSo_b65 N kh13 s0 s1 s2 v1 v4 v5 v6) (fun z => ((0 : Int) ≤ (z).toInt ∧ (z).toInt ≤ 1)) := by
  rw [Parting_isSo_b65]
  have q1 : (0 : Int) ≤ ((zI s0 3)).toInt ∧ ((zI s0 3)).toInt ≤ 3 := (h_s0).1 3
  refine zok_bind (t_Bounds_has N hN s2 (zI s0 3) v6 h_s2 (show (0 : Int) ≤ ((zI s0 3)).toInt ∧ ((zI s0 3)).toInt ≤ 3 from ⟨by omega, by omega⟩) (show (0 : Int) ≤ (v6).toInt ∧ (v6).toInt ≤ 11 from ⟨by omega, by omega⟩)) (fun z1 hz1 => ?_)
  have h_z1 := hz1
  have q3 := li_0
  refine zok_ite (fun c2 => ?_) (fun c2 => ?_)
  · have q4 : (z1).toInt = ((0 : Int32)).toInt := teq c2
    have q5 : (0 : Int) ≤ ((zI s0 0)).toInt ∧ ((zI s0 0)).toInt ≤ 1 := (h_s0).1 0
    exact t_Parting_isSo_b111 N hN kh13 m13 _ _ _ _ _ _ _  hkh13 h_s0 (show (1 : Int) ≤ ((zI s0 0)).toInt ∧ ((zI s0 0)).toInt ≤ 1 from ⟨by omega, by omega⟩) h_s1 h_s2 (show (0 : Int) ≤ (v1).toInt ∧ (v1).toInt ≤ 2047 from ⟨by omega, by omega⟩) (show (0 : Int) ≤ (v4).toInt ∧ (v4).toInt ≤ 20 from ⟨by omega, by omega⟩) (show (0 : Int) ≤ (v5).toInt ∧ (v5).toInt ≤ 2047 from ⟨by omega, by omega⟩) (show (0 : Int) ≤ (v6).toInt ∧ (v6).toInt ≤ 11 from ⟨by omega, by omega⟩) (show 13 - (v6).toInt ≤ m13 from by omega)
  · have q6 : (z1).toInt ≠ ((0 : Int32)).toInt := tneq c2
    have q7 : (0 : Int) ≤ ((zI s0 4)).toInt ∧ ((zI s0 4)).toInt ≤ 99 := (h_s0).1 4
    refine zok_bind (t_Valley_loudness N hN s1 v5 v6 (zI s0 3) (zI s0 4) v4 h_s1 (show (0 : Int) ≤ (v5).toInt ∧ (v5).toInt ≤ 2047 from ⟨by omega, by omega⟩) (show (0 : Int) ≤ ((zI s0 3)).toInt ∧ ((zI s0 3)).toInt ≤ 3 from ⟨by omega, by omega⟩) (show (0 : Int) ≤ ((zI s0 4)).toInt ∧ ((zI s0 4)).toInt ≤ 99 from ⟨by omega, by omega⟩) (show (0 : Int) ≤ (v4).toInt ∧ (v4).toInt ≤ 20 from ⟨by omega, by omega⟩)) (fun z4 hz4 => ?_)
    have h_z4 := hz4
    refine zok_bind (t_Bounds_allow N hN s2 (zI s0 3) v6 z4 h_s2 (show (0 : Int) ≤ ((zI s0 3)).toInt ∧ ((zI s0 3)).toInt ≤ 3 from ⟨by omega, by omega⟩) (show (0 : Int) ≤ (v6).toInt ∧ (v6).toInt ≤ 11 from ⟨by omega, by omega⟩)) (fun z6 hz6 => ?_)
    have h_z6 := hz6
    refine zok_ite (fun c8 => ?_) (fun c8 => ?_)
    · have q9 : (z6).toInt = ((0 : Int32)).toInt := teq c8
      exact zok_some (show (0 : Int) ≤ ((0 : Int32)).toInt ∧ ((0 : Int32)).toInt ≤ 1 from ⟨by omega, by omega⟩)
    · have q10 : (z6).toInt ≠ ((0 : Int32)).toInt := tneq c8
      have q11 : (0 : Int) ≤ ((zI s0 0)).toInt ∧ ((zI s0 0)).toInt ≤ 1 := (h_s0).1 0
      exact t_Parting_isSo_b111 N hN kh13 m13 _ _ _ _ _ _ _  hkh13 h_s0 (show (1 : Int) ≤ ((zI s0 0)).toInt ∧ ((zI s0 0)).toInt ≤ 1 from ⟨by omega, by omega⟩) h_s1 h_s2 (show (0 : Int) ≤ (v1).toInt ∧ (v1).toInt ≤ 2047 from ⟨by omega, by omega⟩) (show (0 : Int) ≤ (v4).toInt ∧ (v4).toInt ≤ 20 from ⟨by omega, by omega⟩) (show (0 : Int) ≤ (v5).toInt ∧ (v5).toInt ≤ 2047 from ⟨by omega, by omega⟩) (show (0 : Int) ≤ (v6).toInt ∧ (v6).toInt ≤ 11 from ⟨by omega, by omega⟩) (show 13 - (v6).toInt ≤ m13 from by omega)
theorem t_Parting_isSo_b13 (N : Nat) (hN : 50000000 ≤ N) (kh13 : Int32 → Option (Int32)) (m13 : Int) (s0 : zSt) (s1 : zSt) (s2 : zSt) (v1 : Int32) (v4 : Int32) (v5 : Int32) (v6 : Int32) (hkh13 : ∀ (v6 : Int32), (0 : Int) ≤ (v6).toInt ∧ (v6).toInt ≤ 12 → 13 - (v6).toInt ≤ m13 - 1 → zok (kh13 v6) (fun z => ((0 : Int) ≤ (z).toInt ∧ (z).toInt ≤ 1))) (h_s0 : I_Parting s0) (h_s0_0 : (1 : Int) ≤ (zI s0 0).toInt ∧ (zI s0 0).toInt ≤ 1) (h_s1 : I_Valley s1) (h_s2 : I_Bounds s2) (h_v1 : (0 : Int) ≤ (v1).toInt ∧ (v1).toInt ≤ 2047) (h_v4 : (0 : Int) ≤ (v4).toInt ∧ (v4).toInt ≤ 20) (h_v5 : (0 : Int) ≤ (v5).toInt ∧ (v5).toInt ≤ 2047) (h_v6 : (0 : Int) ≤ (v6).toInt ∧ (v6).toInt ≤ 12) (hm13 : 13 - (v6).toInt ≤ m13) : zok (Parting_isSo_b13 N kh13 s0 s1 s2 v1 v4 v5 v6) (fun z => ((0 : Int) ≤ (z).toInt ∧ (z).toInt ≤ 1)) := by
  rw [Parting_isSo_b13]
  have q2 := li_12
  refine zok_ite (fun c1 => ?_) (fun c1 => ?_)
  · have q3 : ((12 : Int32)).toInt ≤ (v6).toInt := tle c1
    have q4 := li_1
    exact zok_some (show (0 : Int) ≤ ((1 : Int32)).toInt ∧ ((1 : Int32)).toInt ≤ 1 from ⟨by omega, by omega⟩)
  · have q5 : ((12 : Int32)).toInt > (v6).toInt := tnle c1
    have q6 : (0 : Int) ≤ ((zI s0 1)).toInt ∧ ((zI s0 1)).toInt ≤ 3 := (h_s0).1 1
    refine zok_bind (t_Bounds_has N hN s2 (zI s0 1) v6 h_s2 (show (0 : Int) ≤ ((zI s0 1)).toInt ∧ ((zI s0 1)).toInt ≤ 3 from ⟨by omega, by omega⟩) (show (0 : Int) ≤ (v6).toInt ∧ (v6).toInt ≤ 11 from ⟨by omega, by omega⟩)) (fun z2 hz2 => ?_)
    have h_z2 := hz2
    have q8 := li_0
    refine zok_ite (fun c7 => ?_) (fun c7 => ?_)
    · have q9 : (z2).toInt = ((0 : Int32)).toInt := teq c7
      have q10 : (0 : Int) ≤ ((zI s0 0)).toInt ∧ ((zI s0 0)).toInt ≤ 1 := (h_s0).1 0
      exact t_Parting_isSo_b65 N hN kh13 m13 _ _ _ _ _ _ _  hkh13 h_s0 (show (1 : Int) ≤ ((zI s0 0)).toInt ∧ ((zI s0 0)).toInt ≤ 1 from ⟨by omega, by omega⟩) h_s1 h_s2 (show (0 : Int) ≤ (v1).toInt ∧ (v1).toInt ≤ 2047 from ⟨by omega, by omega⟩) (show (0 : Int) ≤ (v4).toInt ∧ (v4).toInt ≤ 20 from ⟨by omega, by omega⟩) (show (0 : Int) ≤ (v5).toInt ∧ (v5).toInt ≤ 2047 from ⟨by omega, by omega⟩) (show (0 : Int) ≤ (v6).toInt ∧ (v6).toInt ≤ 11 from ⟨by omega, by omega⟩) (show 13 - (v6).toInt ≤ m13 from by omega)
    · have q11 : (z2).toInt ≠ ((0 : Int32)).toInt := tneq c7
      have q12 : (0 : Int) ≤ ((zI s0 2)).toInt ∧ ((zI s0 2)).toInt ≤ 99 := (h_s0).1 2
      refine zok_bind (t_Valley_loudness N hN s1 v1 v6 (zI s0 1) (zI s0 2) v4 h_s1 (show (0 : Int) ≤ (v1).toInt ∧ (v1).toInt ≤ 2047 from ⟨by omega, by omega⟩) (show (0 : Int) ≤ ((zI s0 1)).toInt ∧ ((zI s0 1)).toInt ≤ 3 from ⟨by omega, by omega⟩) (show (0 : Int) ≤ ((zI s0 2)).toInt ∧ ((zI s0 2)).toInt ≤ 99 from ⟨by omega, by omega⟩) (show (0 : Int) ≤ (v4).toInt ∧ (v4).toInt ≤ 20 from ⟨by omega, by omega⟩)) (fun z5 hz5 => ?_)
      have h_z5 := hz5
      refine zok_bind (t_Bounds_allow N hN s2 (zI s0 1) v6 z5 h_s2 (show (0 : Int) ≤ ((zI s0 1)).toInt ∧ ((zI s0 1)).toInt ≤ 3 from ⟨by omega, by omega⟩) (show (0 : Int) ≤ (v6).toInt ∧ (v6).toInt ≤ 11 from ⟨by omega, by omega⟩)) (fun z7 hz7 => ?_)
      have h_z7 := hz7
      refine zok_ite (fun c13 => ?_) (fun c13 => ?_)
      · have q14 : (z7).toInt = ((0 : Int32)).toInt := teq c13
        exact zok_some (show (0 : Int) ≤ ((0 : Int32)).toInt ∧ ((0 : Int32)).toInt ≤ 1 from ⟨by omega, by omega⟩)
      · have q15 : (z7).toInt ≠ ((0 : Int32)).toInt := tneq c13
        have q16 : (0 : Int) ≤ ((zI s0 0)).toInt ∧ ((zI s0 0)).toInt ≤ 1 := (h_s0).1 0
        exact t_Parting_isSo_b65 N hN kh13 m13 _ _ _ _ _ _ _  hkh13 h_s0 (show (1 : Int) ≤ ((zI s0 0)).toInt ∧ ((zI s0 0)).toInt ≤ 1 from ⟨by omega, by omega⟩) h_s1 h_s2 (show (0 : Int) ≤ (v1).toInt ∧ (v1).toInt ≤ 2047 from ⟨by omega, by omega⟩) (show (0 : Int) ≤ (v4).toInt ∧ (v4).toInt ≤ 20 from ⟨by omega, by omega⟩) (show (0 : Int) ≤ (v5).toInt ∧ (v5).toInt ≤ 2047 from ⟨by omega, by omega⟩) (show (0 : Int) ≤ (v6).toInt ∧ (v6).toInt ≤ 11 from ⟨by omega, by omega⟩) (show 13 - (v6).toInt ≤ m13 from by omega)
theorem t_Parting_isSo_h13 (N : Nat) (hN : 50000000 ≤ N) (s0 : zSt) (s1 : zSt) (s2 : zSt) (v1 : Int32) (v4 : Int32) (v5 : Int32) (h_s0 : I_Parting s0) (h_s0_0 : (1 : Int) ≤ (zI s0 0).toInt ∧ (zI s0 0).toInt ≤ 1) (h_s1 : I_Valley s1) (h_s2 : I_Bounds s2) (h_v1 : (0 : Int) ≤ (v1).toInt ∧ (v1).toInt ≤ 2047) (h_v4 : (0 : Int) ≤ (v4).toInt ∧ (v4).toInt ≤ 20) (h_v5 : (0 : Int) ≤ (v5).toInt ∧ (v5).toInt ≤ 2047) : ∀ (n : Nat) (v6 : Int32), (0 : Int) ≤ (v6).toInt ∧ (v6).toInt ≤ 12 → 13 - (v6).toInt ≤ (n : Int) → zok (Parting_isSo_h13 N s0 s1 s2 v1 v4 v5 n v6) (fun z => ((0 : Int) ≤ (z).toInt ∧ (z).toInt ≤ 1))
  | 0, v6, h_v6, hm => absurd hm (by omega)
  | n + 1, v6, h_v6, hm => by
    rw [Parting_isSo_h13_s]
    exact t_Parting_isSo_b13 N hN (Parting_isSo_h13 N s0 s1 s2 v1 v4 v5 n) ((n + 1 : Nat) : Int) s0 s1 s2 v1 v4 v5 v6  (fun v6 h_v6 q => t_Parting_isSo_h13 N hN  s0 s1 s2 v1 v4 v5   h_s0 h_s0_0 h_s1 h_s2 h_v1 h_v4 h_v5   n v6 h_v6 (by omega)) h_s0 h_s0_0 h_s1 h_s2 h_v1 h_v4 h_v5 h_v6  hm
theorem t_Parting_isSo_b0 (N : Nat) (hN : 50000000 ≤ N) (s0 : zSt) (s1 : zSt) (s2 : zSt) (v1 : Int32) (v4 : Int32) (h_s0 : I_Parting s0) (h_s0_0 : (1 : Int) ≤ (zI s0 0).toInt ∧ (zI s0 0).toInt ≤ 1) (h_s1 : I_Valley s1) (h_s2 : I_Bounds s2) (h_v1 : (0 : Int) ≤ (v1).toInt ∧ (v1).toInt ≤ 2047) (h_v4 : (0 : Int) ≤ (v4).toInt ∧ (v4).toInt ≤ 20) : zok (Parting_isSo_b0 N s0 s1 s2 v1 v4) (fun z => ((0 : Int) ≤ (z).toInt ∧ (z).toInt ≤ 1)) := by
  rw [Parting_isSo_b0]
  have q1 : (0 : Int) ≤ ((zI s0 0)).toInt ∧ ((zI s0 0)).toInt ≤ 1 := (h_s0).1 0
  have q2 : (0 : Int) ≤ ((zI s1 8)).toInt ∧ ((zI s1 8)).toInt ≤ 2047 := (h_s1).1 8
  have q3 := tandl (zI s1 8) (v1 ^^^ ((-1) : Int32)) (by omega)
  have q4 := li_0
  exact t_Parting_isSo_h13 N hN  _ _ _ _ _ _   h_s0 (show (1 : Int) ≤ ((zI s0 0)).toInt ∧ ((zI s0 0)).toInt ≤ 1 from ⟨by omega, by omega⟩) h_s1 h_s2 (show (0 : Int) ≤ (v1).toInt ∧ (v1).toInt ≤ 2047 from ⟨by omega, by omega⟩) (show (0 : Int) ≤ (v4).toInt ∧ (v4).toInt ≤ 20 from ⟨by omega, by omega⟩) (show (0 : Int) ≤ (((zI s1 8) &&& (v1 ^^^ ((-1) : Int32)))).toInt ∧ (((zI s1 8) &&& (v1 ^^^ ((-1) : Int32)))).toInt ≤ 2047 from ⟨by omega, by omega⟩)  N _ (show (0 : Int) ≤ ((0 : Int32)).toInt ∧ ((0 : Int32)).toInt ≤ 12 from ⟨by omega, by omega⟩) (show 13 - ((0 : Int32)).toInt ≤ (N : Int) from by omega)
theorem t_Parting_isSo (N : Nat) (hN : 50000000 ≤ N) (s0 : zSt) (s1 : zSt) (s2 : zSt) (v1 : Int32) (v4 : Int32) (h_s0 : I_Parting s0) (h_s0_0 : (1 : Int) ≤ (zI s0 0).toInt ∧ (zI s0 0).toInt ≤ 1) (h_s1 : I_Valley s1) (h_s2 : I_Bounds s2) (h_v1 : (0 : Int) ≤ (v1).toInt ∧ (v1).toInt ≤ 2047) (h_v4 : (0 : Int) ≤ (v4).toInt ∧ (v4).toInt ≤ 20) : zok (Parting_isSo N s0 s1 s2 v1 v4) (fun z => ((0 : Int) ≤ (z).toInt ∧ (z).toInt ≤ 1)) :=
  t_Parting_isSo_b0 N hN s0 s1 s2 v1 v4  h_s0 h_s0_0 h_s1 h_s2 h_v1 h_v4 
theorem t_Parting_countStrayed_b5 (N : Nat) (hN : 50000000 ≤ N) (kh5 : Int32 → Int32 → Option (Int32)) (m5 : Int) (s0 : zSt) (s1 : zSt) (v1 : Int32) (v3 : Int32) (v4 : Int32) (hkh5 : ∀ (v3 : Int32) (v4 : Int32), (0 : Int) ≤ (v4).toInt ∧ (v4).toInt ≤ 3 → 4 - (v4).toInt ≤ m5 - 1 → zok (kh5 v3 v4) (fun z => True)) (h_s0 : I_Parting s0) (h_s0_0 : (1 : Int) ≤ (zI s0 0).toInt ∧ (zI s0 0).toInt ≤ 1) (h_s1 : I_Valley s1) (h_v1 : (0 : Int) ≤ (v1).toInt ∧ (v1).toInt ≤ 2047) (h_v4 : (0 : Int) ≤ (v4).toInt ∧ (v4).toInt ≤ 3) (hm5 : 4 - (v4).toInt ≤ m5) : zok (Parting_countStrayed_b5 N kh5 s0 s1 v1 v3 v4) (fun z => True) := by
  rw [Parting_countStrayed_b5]
  have q2 : (0 : Int) ≤ ((zI s1 0)).toInt ∧ ((zI s1 0)).toInt ≤ 3 := (h_s1).1 0
  refine zok_ite (fun c1 => ?_) (fun c1 => ?_)
  · have q3 : ((zI s1 0)).toInt ≤ (v4).toInt := tle c1
    exact zok_some trivial
  · have q4 : ((zI s1 0)).toInt > (v4).toInt := tnle c1
    refine zok_ck (show vp_in v4 3 from vin (by omega) (by omega)) ?_
    refine zok_bind (t_Integer_bitCount N hN (((zA s1 2) (Int32.toNatClampNeg v4)) &&& v1) ) (fun z3 hz3 => ?_)
    have h_z3 := hz3
    refine zok_ck (show vp_in v4 3 from vin (by omega) (by omega)) ?_
    refine zok_bind (t_Integer_bitCount N hN (((zA s1 2) (Int32.toNatClampNeg v4)) &&& (v1 ^^^ ((-1) : Int32))) ) (fun z6 hz6 => ?_)
    have h_z6 := hz6
    refine zok_bind (t_Math_min N hN z3 z6 ) (fun z8 hz8 => ?_)
    have h_z8 := hz8
    have q5 := li_1
    have q6 := tadd v4 (1 : Int32) (by omega) (by omega)
    exact hkh5 _ _ (show (0 : Int) ≤ ((v4 + (1 : Int32))).toInt ∧ ((v4 + (1 : Int32))).toInt ≤ 3 from ⟨by omega, by omega⟩) (show 4 - ((v4 + (1 : Int32))).toInt ≤ m5 - 1 by omega)
theorem t_Parting_countStrayed_h5 (N : Nat) (hN : 50000000 ≤ N) (s0 : zSt) (s1 : zSt) (v1 : Int32) (h_s0 : I_Parting s0) (h_s0_0 : (1 : Int) ≤ (zI s0 0).toInt ∧ (zI s0 0).toInt ≤ 1) (h_s1 : I_Valley s1) (h_v1 : (0 : Int) ≤ (v1).toInt ∧ (v1).toInt ≤ 2047) : ∀ (n : Nat) (v3 : Int32) (v4 : Int32), (0 : Int) ≤ (v4).toInt ∧ (v4).toInt ≤ 3 → 4 - (v4).toInt ≤ (n : Int) → zok (Parting_countStrayed_h5 N s0 s1 v1 n v3 v4) (fun z => True)
  | 0, v3, v4, h_v4, hm => absurd hm (by omega)
  | n + 1, v3, v4, h_v4, hm => by
    rw [Parting_countStrayed_h5_s]
    exact t_Parting_countStrayed_b5 N hN (Parting_countStrayed_h5 N s0 s1 v1 n) ((n + 1 : Nat) : Int) s0 s1 v1 v3 v4  (fun v3 v4 h_v4 q => t_Parting_countStrayed_h5 N hN  s0 s1 v1   h_s0 h_s0_0 h_s1 h_v1   n v3 v4 h_v4 (by omega)) h_s0 h_s0_0 h_s1 h_v1 h_v4  hm
theorem t_Parting_countStrayed_b0 (N : Nat) (hN : 50000000 ≤ N) (s0 : zSt) (s1 : zSt) (v1 : Int32) (h_s0 : I_Parting s0) (h_s0_0 : (1 : Int) ≤ (zI s0 0).toInt ∧ (zI s0 0).toInt ≤ 1) (h_s1 : I_Valley s1) (h_v1 : (0 : Int) ≤ (v1).toInt ∧ (v1).toInt ≤ 2047) : zok (Parting_countStrayed_b0 N s0 s1 v1) (fun z => True) := by
  rw [Parting_countStrayed_b0]
  have q1 : (0 : Int) ≤ ((zI s0 0)).toInt ∧ ((zI s0 0)).toInt ≤ 1 := (h_s0).1 0
  have q2 := li_0
  exact t_Parting_countStrayed_h5 N hN  _ _ _   h_s0 (show (1 : Int) ≤ ((zI s0 0)).toInt ∧ ((zI s0 0)).toInt ≤ 1 from ⟨by omega, by omega⟩) h_s1 (show (0 : Int) ≤ (v1).toInt ∧ (v1).toInt ≤ 2047 from ⟨by omega, by omega⟩)  N _ _ (show (0 : Int) ≤ ((0 : Int32)).toInt ∧ ((0 : Int32)).toInt ≤ 3 from ⟨by omega, by omega⟩) (show 4 - ((0 : Int32)).toInt ≤ (N : Int) from by omega)
theorem t_Parting_countStrayed (N : Nat) (hN : 50000000 ≤ N) (s0 : zSt) (s1 : zSt) (v1 : Int32) (h_s0 : I_Parting s0) (h_s0_0 : (1 : Int) ≤ (zI s0 0).toInt ∧ (zI s0 0).toInt ≤ 1) (h_s1 : I_Valley s1) (h_v1 : (0 : Int) ≤ (v1).toInt ∧ (v1).toInt ≤ 2047) : zok (Parting_countStrayed N s0 s1 v1) (fun z => True) :=
  t_Parting_countStrayed_b0 N hN s0 s1 v1  h_s0 h_s0_0 h_s1 h_v1 
theorem t_Parting_gather_b55 (N : Nat) (hN : 50000000 ≤ N) (s0 : zSt) (s1 : zSt) (v1 : Int32) (v3 : Int32) (gs0 : zSt) (h_s0 : I_Parting s0) (h_s0_0 : (1 : Int) ≤ (zI s0 0).toInt ∧ (zI s0 0).toInt ≤ 1) (h_s1 : I_Valley s1) (h_v1 : (0 : Int) ≤ (v1).toInt ∧ (v1).toInt ≤ 2047) (g_s0 : Fr [6, 7, 8, 9, 10] [] s0 gs0) : zok (Parting_gather_b55 N s0 s1 v1 v3) (fun z => I_Parting z ∧ Fr [6, 7, 8, 9, 10] [] z gs0) := by
  rw [Parting_gather_b55]
  exact zok_some ⟨(IS.pI 10 v1 (IS.pI 9 v3 h_s0 (tr _)) (tr _)), (Fr.pI (Fr.pI g_s0 rfl) rfl)⟩
theorem t_Parting_gather_b0 (N : Nat) (hN : 50000000 ≤ N) (s0 : zSt) (s1 : zSt) (v1 : Int32) (gs0 : zSt) (h_s0 : I_Parting s0) (h_s0_0 : (1 : Int) ≤ (zI s0 0).toInt ∧ (zI s0 0).toInt ≤ 1) (h_s1 : I_Valley s1) (h_v1 : (0 : Int) ≤ (v1).toInt ∧ (v1).toInt ≤ 2047) (g_s0 : Fr [6, 7, 8, 9, 10] [] s0 gs0) : zok (Parting_gather_b0 N s0 s1 v1) (fun z => I_Parting z ∧ Fr [6, 7, 8, 9, 10] [] z gs0) := by
  rw [Parting_gather_b0]
  have q1 : (0 : Int) ≤ ((zI s0 0)).toInt ∧ ((zI s0 0)).toInt ≤ 1 := (h_s0).1 0
  refine zok_bind (t_Parting_countStrayed N hN (zpI (zpI (zpI s0 6 ((zI s0 6) + (1 : Int32))) 7 ((zI s0 7) &&& v1)) 8 ((zI s0 8) &&& (v1 ^^^ ((-1) : Int32)))) s1 v1 (IS.pI 8 ((zI s0 8) &&& (v1 ^^^ ((-1) : Int32))) (IS.pI 7 ((zI s0 7) &&& v1) (IS.pI 6 ((zI s0 6) + (1 : Int32)) h_s0 (tr _)) (tr _)) (tr _)) (show (1 : Int) ≤ ((zI s0 0)).toInt ∧ ((zI s0 0)).toInt ≤ 1 from ⟨by omega, by omega⟩) h_s1 (show (0 : Int) ≤ (v1).toInt ∧ (v1).toInt ≤ 2047 from ⟨by omega, by omega⟩)) (fun z1 hz1 => ?_)
  have h_z1 := hz1
  have q3 := tr (zI s0 9)
  have q4 := li_m1
  refine zok_ite (fun c2 => ?_) (fun c2 => ?_)
  · have q5 : ((zI s0 9)).toInt = (((-1) : Int32)).toInt := teq c2
    exact t_Parting_gather_b55 N hN  _ _ _ _ gs0  (IS.pI 8 ((zI s0 8) &&& (v1 ^^^ ((-1) : Int32))) (IS.pI 7 ((zI s0 7) &&& v1) (IS.pI 6 ((zI s0 6) + (1 : Int32)) h_s0 (tr _)) (tr _)) (tr _)) (show (1 : Int) ≤ ((zI s0 0)).toInt ∧ ((zI s0 0)).toInt ≤ 1 from ⟨by omega, by omega⟩) h_s1 (show (0 : Int) ≤ (v1).toInt ∧ (v1).toInt ≤ 2047 from ⟨by omega, by omega⟩) (Fr.pI (Fr.pI (Fr.pI g_s0 rfl) rfl) rfl) 
  · have q6 : ((zI s0 9)).toInt ≠ (((-1) : Int32)).toInt := tneq c2
    have q8 := tr z1
    refine zok_ite (fun c7 => ?_) (fun c7 => ?_)
    · have q9 : ((zI s0 9)).toInt ≤ (z1).toInt := tle c7
      exact zok_some ⟨(IS.pI 8 ((zI s0 8) &&& (v1 ^^^ ((-1) : Int32))) (IS.pI 7 ((zI s0 7) &&& v1) (IS.pI 6 ((zI s0 6) + (1 : Int32)) h_s0 (tr _)) (tr _)) (tr _)), (Fr.pI (Fr.pI (Fr.pI g_s0 rfl) rfl) rfl)⟩
    · have q10 : ((zI s0 9)).toInt > (z1).toInt := tnle c7
      exact t_Parting_gather_b55 N hN  _ _ _ _ gs0  (IS.pI 8 ((zI s0 8) &&& (v1 ^^^ ((-1) : Int32))) (IS.pI 7 ((zI s0 7) &&& v1) (IS.pI 6 ((zI s0 6) + (1 : Int32)) h_s0 (tr _)) (tr _)) (tr _)) (show (1 : Int) ≤ ((zI s0 0)).toInt ∧ ((zI s0 0)).toInt ≤ 1 from ⟨by omega, by omega⟩) h_s1 (show (0 : Int) ≤ (v1).toInt ∧ (v1).toInt ≤ 2047 from ⟨by omega, by omega⟩) (Fr.pI (Fr.pI (Fr.pI g_s0 rfl) rfl) rfl) 
theorem t_Parting_gather (N : Nat) (hN : 50000000 ≤ N) (s0 : zSt) (s1 : zSt) (v1 : Int32) (h_s0 : I_Parting s0) (h_s0_0 : (1 : Int) ≤ (zI s0 0).toInt ∧ (zI s0 0).toInt ≤ 1) (h_s1 : I_Valley s1) (h_v1 : (0 : Int) ≤ (v1).toInt ∧ (v1).toInt ≤ 2047) : zok (Parting_gather N s0 s1 v1) (fun z => I_Parting z ∧ Fr [6, 7, 8, 9, 10] [] z s0) :=
  t_Parting_gather_b0 N hN s0 s1 v1 s0 h_s0 h_s0_0 h_s1 h_v1 ⟨fun _ _ => rfl, fun _ _ => rfl⟩
theorem t_Parting_seek_b74 (N : Nat) (hN : 50000000 ≤ N) (kh34 : zSt → Int32 → Option (zSt)) (m34 : Int) (s0 : zSt) (s1 : zSt) (s2 : zSt) (v3 : Int32) (v4 : Int32) (gs0 : zSt) (hkh34 : ∀ (s0 : zSt) (v4 : Int32), I_Parting s0 → (1 : Int) ≤ (zI s0 0).toInt ∧ (zI s0 0).toInt ≤ 1 → (0 : Int) ≤ (v4).toInt ∧ (v4).toInt ≤ 2048 → Fr [6, 7, 8, 9, 10] [] s0 gs0 → 2049 - (v4).toInt ≤ m34 - 1 → zok (kh34 s0 v4) (fun z => I_Parting z ∧ Fr [6, 7, 8, 9, 10] [] z gs0)) (h_s0 : I_Parting s0) (h_s0_0 : (1 : Int) ≤ (zI s0 0).toInt ∧ (zI s0 0).toInt ≤ 1) (h_s1 : I_Valley s1) (h_s2 : I_Bounds s2) (h_v3 : (0 : Int) ≤ (v3).toInt ∧ (v3).toInt ≤ 20) (h_v4 : (0 : Int) ≤ (v4).toInt ∧ (v4).toInt ≤ 2047) (g_s0 : Fr [6, 7, 8, 9, 10] [] s0 gs0) (hm34 : 2049 - (v4).toInt ≤ m34) : zok (Parting_seek_b74 N kh34 s0 s1 s2 v3 v4) (fun z => I_Parting z ∧ Fr [6, 7, 8, 9, 10] [] z gs0) := by
  rw [Parting_seek_b74]
  have q1 : (0 : Int) ≤ ((zI s0 0)).toInt ∧ ((zI s0 0)).toInt ≤ 1 := (h_s0).1 0
  have q2 := li_1
  have q3 := tadd v4 (1 : Int32) (by omega) (by omega)
  exact hkh34 _ _ h_s0 (show (1 : Int) ≤ ((zI s0 0)).toInt ∧ ((zI s0 0)).toInt ≤ 1 from ⟨by omega, by omega⟩) (show (0 : Int) ≤ ((v4 + (1 : Int32))).toInt ∧ ((v4 + (1 : Int32))).toInt ≤ 2048 from ⟨by omega, by omega⟩) g_s0 (show 2049 - ((v4 + (1 : Int32))).toInt ≤ m34 - 1 by omega)
theorem t_Parting_seek_b34 (N : Nat) (hN : 50000000 ≤ N) (kh34 : zSt → Int32 → Option (zSt)) (m34 : Int) (s0 : zSt) (s1 : zSt) (s2 : zSt) (v3 : Int32) (v4 : Int32) (gs0 : zSt) (hkh34 : ∀ (s0 : zSt) (v4 : Int32), I_Parting s0 → (1 : Int) ≤ (zI s0 0).toInt ∧ (zI s0 0).toInt ≤ 1 → (0 : Int) ≤ (v4).toInt ∧ (v4).toInt ≤ 2048 → Fr [6, 7, 8, 9, 10] [] s0 gs0 → 2049 - (v4).toInt ≤ m34 - 1 → zok (kh34 s0 v4) (fun z => I_Parting z ∧ Fr [6, 7, 8, 9, 10] [] z gs0)) (h_s0 : I_Parting s0) (h_s0_0 : (1 : Int) ≤ (zI s0 0).toInt ∧ (zI s0 0).toInt ≤ 1) (h_s1 : I_Valley s1) (h_s2 : I_Bounds s2) (h_v3 : (0 : Int) ≤ (v3).toInt ∧ (v3).toInt ≤ 20) (h_v4 : (0 : Int) ≤ (v4).toInt ∧ (v4).toInt ≤ 2048) (g_s0 : Fr [6, 7, 8, 9, 10] [] s0 gs0) (hm34 : 2049 - (v4).toInt ≤ m34) : zok (Parting_seek_b34 N kh34 s0 s1 s2 v3 v4) (fun z => I_Parting z ∧ Fr [6, 7, 8, 9, 10] [] z gs0) := by
  rw [Parting_seek_b34]
  have q2 : (0 : Int) ≤ ((zI s1 8)).toInt ∧ ((zI s1 8)).toInt ≤ 2047 := (h_s1).1 8
  refine zok_ite (fun c1 => ?_) (fun c1 => ?_)
  · have q3 : ((zI s1 8)).toInt < (v4).toInt := tlt c1
    have q5 := tr (zI s0 6)
    have q6 := li_0
    refine zok_ite (fun c4 => ?_) (fun c4 => ?_)
    · have q7 : ((zI s0 6)).toInt = ((0 : Int32)).toInt := teq c4
      exact zok_some ⟨(IS.pI 8 (0 : Int32) (IS.pI 7 (0 : Int32) h_s0 (tr _)) (tr _)), (Fr.pI (Fr.pI g_s0 rfl) rfl)⟩
    · have q8 : ((zI s0 6)).toInt ≠ ((0 : Int32)).toInt := tneq c4
      exact zok_some ⟨h_s0, g_s0⟩
  · have q9 : ((zI s1 8)).toInt ≥ (v4).toInt := tnlt c1
    refine zok_ite (fun c10 => ?_) (fun c10 => ?_)
    · have q11 : (0 : Int) ≤ ((zI s0 0)).toInt ∧ ((zI s0 0)).toInt ≤ 1 := (h_s0).1 0
      refine zok_bind (t_Parting_isSo N hN s0 s1 s2 v4 v3 h_s0 (show (1 : Int) ≤ ((zI s0 0)).toInt ∧ ((zI s0 0)).toInt ≤ 1 from ⟨by omega, by omega⟩) h_s1 h_s2 (show (0 : Int) ≤ (v4).toInt ∧ (v4).toInt ≤ 2047 from ⟨by omega, by omega⟩) (show (0 : Int) ≤ (v3).toInt ∧ (v3).toInt ≤ 20 from ⟨by omega, by omega⟩)) (fun z4 hz4 => ?_)
      have h_z4 := hz4
      have q13 := li_0
      refine zok_ite (fun c12 => ?_) (fun c12 => ?_)
      · have q14 : (z4).toInt = ((0 : Int32)).toInt := teq c12
        exact t_Parting_seek_b74 N hN kh34 m34 _ _ _ _ _ gs0 hkh34 h_s0 (show (1 : Int) ≤ ((zI s0 0)).toInt ∧ ((zI s0 0)).toInt ≤ 1 from ⟨by omega, by omega⟩) h_s1 h_s2 (show (0 : Int) ≤ (v3).toInt ∧ (v3).toInt ≤ 20 from ⟨by omega, by omega⟩) (show (0 : Int) ≤ (v4).toInt ∧ (v4).toInt ≤ 2047 from ⟨by omega, by omega⟩) g_s0 (show 2049 - (v4).toInt ≤ m34 from by omega)
      · have q15 : (z4).toInt ≠ ((0 : Int32)).toInt := tneq c12
        refine zok_bind (t_Parting_gather N hN s0 s1 v4 h_s0 (show (1 : Int) ≤ ((zI s0 0)).toInt ∧ ((zI s0 0)).toInt ≤ 1 from ⟨by omega, by omega⟩) h_s1 (show (0 : Int) ≤ (v4).toInt ∧ (v4).toInt ≤ 2047 from ⟨by omega, by omega⟩)) (fun z7 hz7 => ?_)
        obtain ⟨h_z7, fr_z7⟩ := hz7
        have q16 : (0 : Int) ≤ ((zI z7 0)).toInt ∧ ((zI z7 0)).toInt ≤ 1 := (h_z7).1 0
        have q17 : ((zI z7 0)).toInt = ((zI s0 0)).toInt := congrArg Int32.toInt (fr_z7.1 0 rfl)
        exact t_Parting_seek_b74 N hN kh34 m34 _ _ _ _ _ gs0 hkh34 h_z7 (show (1 : Int) ≤ ((zI z7 0)).toInt ∧ ((zI z7 0)).toInt ≤ 1 from ⟨by omega, by omega⟩) h_s1 h_s2 (show (0 : Int) ≤ (v3).toInt ∧ (v3).toInt ≤ 20 from ⟨by omega, by omega⟩) (show (0 : Int) ≤ (v4).toInt ∧ (v4).toInt ≤ 2047 from ⟨by omega, by omega⟩) (Fr.tr fr_z7 g_s0 rfl rfl) (show 2049 - (v4).toInt ≤ m34 from by omega)
    · have q18 : (0 : Int) ≤ ((zI s0 0)).toInt ∧ ((zI s0 0)).toInt ≤ 1 := (h_s0).1 0
      exact t_Parting_seek_b74 N hN kh34 m34 _ _ _ _ _ gs0 hkh34 h_s0 (show (1 : Int) ≤ ((zI s0 0)).toInt ∧ ((zI s0 0)).toInt ≤ 1 from ⟨by omega, by omega⟩) h_s1 h_s2 (show (0 : Int) ≤ (v3).toInt ∧ (v3).toInt ≤ 20 from ⟨by omega, by omega⟩) (show (0 : Int) ≤ (v4).toInt ∧ (v4).toInt ≤ 2047 from ⟨by omega, by omega⟩) g_s0 (show 2049 - (v4).toInt ≤ m34 from by omega)
theorem t_Parting_seek_h34 (N : Nat) (hN : 50000000 ≤ N) (s1 : zSt) (s2 : zSt) (v3 : Int32) (gs0 : zSt) (h_s1 : I_Valley s1) (h_s2 : I_Bounds s2) (h_v3 : (0 : Int) ≤ (v3).toInt ∧ (v3).toInt ≤ 20) : ∀ (n : Nat) (s0 : zSt) (v4 : Int32), I_Parting s0 → (1 : Int) ≤ (zI s0 0).toInt ∧ (zI s0 0).toInt ≤ 1 → (0 : Int) ≤ (v4).toInt ∧ (v4).toInt ≤ 2048 → Fr [6, 7, 8, 9, 10] [] s0 gs0 → 2049 - (v4).toInt ≤ (n : Int) → zok (Parting_seek_h34 N s1 s2 v3 n s0 v4) (fun z => I_Parting z ∧ Fr [6, 7, 8, 9, 10] [] z gs0)
  | 0, s0, v4, h_s0, h_s0_0, h_v4, g_s0, hm => absurd hm (by omega)
  | n + 1, s0, v4, h_s0, h_s0_0, h_v4, g_s0, hm => by
    rw [Parting_seek_h34_s]
    exact t_Parting_seek_b34 N hN (Parting_seek_h34 N s1 s2 v3 n) ((n + 1 : Nat) : Int) s0 s1 s2 v3 v4 gs0 (fun s0 v4 h_s0 h_s0_0 h_v4 g_s0 q => t_Parting_seek_h34 N hN  s1 s2 v3 gs0  h_s1 h_s2 h_v3   n s0 v4 h_s0 h_s0_0 h_v4 g_s0 (by omega)) h_s0 h_s0_0 h_s1 h_s2 h_v3 h_v4 g_s0 hm
theorem t_Parting_seek_b0 (N : Nat) (hN : 50000000 ≤ N) (s0 : zSt) (s1 : zSt) (s2 : zSt) (v3 : Int32) (gs0 : zSt) (h_s0 : I_Parting s0) (h_s0_0 : (1 : Int) ≤ (zI s0 0).toInt ∧ (zI s0 0).toInt ≤ 1) (h_s1 : I_Valley s1) (h_s2 : I_Bounds s2) (h_v3 : (0 : Int) ≤ (v3).toInt ∧ (v3).toInt ≤ 20) (g_s0 : Fr [6, 7, 8, 9, 10] [] s0 gs0) : zok (Parting_seek_b0 N s0 s1 s2 v3) (fun z => I_Parting z ∧ Fr [6, 7, 8, 9, 10] [] z gs0) := by
  rw [Parting_seek_b0]
  have q1 : (0 : Int) ≤ ((zI s0 0)).toInt ∧ ((zI s0 0)).toInt ≤ 1 := (h_s0).1 0
  have q2 := li_0
  exact t_Parting_seek_h34 N hN  _ _ _ gs0  h_s1 h_s2 (show (0 : Int) ≤ (v3).toInt ∧ (v3).toInt ≤ 20 from ⟨by omega, by omega⟩)  N _ _ (IS.pI 10 ((-1) : Int32) (IS.pI 9 ((-1) : Int32) (IS.pI 8 (zI s1 8) (IS.pI 7 (zI s1 8) (IS.pI 6 (0 : Int32) h_s0 (tr _)) (tr _)) (tr _)) (tr _)) (tr _)) (show (1 : Int) ≤ ((zI s0 0)).toInt ∧ ((zI s0 0)).toInt ≤ 1 from ⟨by omega, by omega⟩) (show (0 : Int) ≤ ((0 : Int32)).toInt ∧ ((0 : Int32)).toInt ≤ 2048 from ⟨by omega, by omega⟩) (Fr.pI (Fr.pI (Fr.pI (Fr.pI (Fr.pI g_s0 rfl) rfl) rfl) rfl) rfl) (show 2049 - ((0 : Int32)).toInt ≤ (N : Int) from by omega)
theorem t_Parting_seek (N : Nat) (hN : 50000000 ≤ N) (s0 : zSt) (s1 : zSt) (s2 : zSt) (v3 : Int32) (h_s0 : I_Parting s0) (h_s0_0 : (1 : Int) ≤ (zI s0 0).toInt ∧ (zI s0 0).toInt ≤ 1) (h_s1 : I_Valley s1) (h_s2 : I_Bounds s2) (h_v3 : (0 : Int) ≤ (v3).toInt ∧ (v3).toInt ≤ 20) : zok (Parting_seek N s0 s1 s2 v3) (fun z => I_Parting z ∧ Fr [6, 7, 8, 9, 10] [] z s0) :=
  t_Parting_seek_b0 N hN s0 s1 s2 v3 s0 h_s0 h_s0_0 h_s1 h_s2 h_v3 ⟨fun _ _ => rfl, fun _ _ => rfl⟩
theorem t_Sets_begin_b67 (N : Nat) (hN : 50000000 ≤ N) (kh7 : zSt → Int32 → Option (zSt)) (m7 : Int) (s0 : zSt) (s1 : zSt) (s2 : zSt) (v3 : Int32) (gs0 : zSt) (hkh7 : ∀ (s0 : zSt) (v3 : Int32), I_Sets s0 → (0 : Int) ≤ (v3).toInt ∧ (v3).toInt ≤ 11 → ((zI s0 7)).toInt ≤ (v3).toInt → Fr [0, 1, 2, 3, 4, 5, 7] [8, 9, 11, 13] s0 gs0 → 12 - (v3).toInt ≤ m7 - 1 → zok (kh7 s0 v3) (fun z => I_Sets z ∧ Fr [0, 1, 2, 3, 4, 5, 7] [8, 9, 11, 13] z gs0)) (h_s0 : I_Sets s0) (h_s1 : I_Valley s1) (h_s1_3 : (1 : Int) ≤ (zI s1 3).toInt ∧ (zI s1 3).toInt ≤ 11) (h_s2 : I_Bounds s2) (h_v3 : (0 : Int) ≤ (v3).toInt ∧ (v3).toInt ≤ 10) (hx0 : ((zI s0 7)).toInt ≤ ((v3 + (1 : Int32))).toInt) (g_s0 : Fr [0, 1, 2, 3, 4, 5, 7] [8, 9, 11, 13] s0 gs0) (hm7 : 12 - (v3).toInt ≤ m7) : zok (Sets_begin_b67 N kh7 s0 s1 s2 v3) (fun z => I_Sets z ∧ Fr [0, 1, 2, 3, 4, 5, 7] [8, 9, 11, 13] z gs0) := by
  rw [Sets_begin_b67]
  have q1 := li_1
  have q2 := tadd v3 (1 : Int32) (by omega) (by omega)
  have q3 : (0 : Int) ≤ ((zI s0 7)).toInt ∧ ((zI s0 7)).toInt ≤ 11 := (h_s0).1 7
  exact hkh7 _ _ h_s0 (show (0 : Int) ≤ ((v3 + (1 : Int32))).toInt ∧ ((v3 + (1 : Int32))).toInt ≤ 11 from ⟨by omega, by omega⟩) (show ((zI s0 7)).toInt ≤ ((v3 + (1 : Int32))).toInt from by omega) g_s0 (show 12 - ((v3 + (1 : Int32))).toInt ≤ m7 - 1 by omega)
theorem t_Sets_begin_b7 (N : Nat) (hN : 50000000 ≤ N) (kh7 : zSt → Int32 → Option (zSt)) (m7 : Int) (s0 : zSt) (s1 : zSt) (s2 : zSt) (v3 : Int32) (gs0 : zSt) (hkh7 : ∀ (s0 : zSt) (v3 : Int32), I_Sets s0 → (0 : Int) ≤ (v3).toInt ∧ (v3).toInt ≤ 11 → ((zI s0 7)).toInt ≤ (v3).toInt → Fr [0, 1, 2, 3, 4, 5, 7] [8, 9, 11, 13] s0 gs0 → 12 - (v3).toInt ≤ m7 - 1 → zok (kh7 s0 v3) (fun z => I_Sets z ∧ Fr [0, 1, 2, 3, 4, 5, 7] [8, 9, 11, 13] z gs0)) (h_s0 : I_Sets s0) (h_s1 : I_Valley s1) (h_s2 : I_Bounds s2) (h_v3 : (0 : Int) ≤ (v3).toInt ∧ (v3).toInt ≤ 11) (hx0 : ((zI s0 7)).toInt ≤ (v3).toInt) (g_s0 : Fr [0, 1, 2, 3, 4, 5, 7] [8, 9, 11, 13] s0 gs0) (hm7 : 12 - (v3).toInt ≤ m7) : zok (Sets_begin_b7 N kh7 s0 s1 s2 v3) (fun z => I_Sets z ∧ Fr [0, 1, 2, 3, 4, 5, 7] [8, 9, 11, 13] z gs0) := by
  rw [Sets_begin_b7]
  have q2 : (0 : Int) ≤ ((zI s1 3)).toInt ∧ ((zI s1 3)).toInt ≤ 11 := (h_s1).1 3
  refine zok_ite (fun c1 => ?_) (fun c1 => ?_)
  · have q3 : ((zI s1 3)).toInt ≤ (v3).toInt := tle c1
    have q4 := li_0
    refine zok_bind (t_Arrays_fill N hN 48 (zA s0 11) (0 : Int32) (by decide) (show (0 : Int) ≤ ((0 : Int32)).toInt ∧ ((0 : Int32)).toInt ≤ 0 from ⟨by omega, by omega⟩)) (fun z2 hz2 => ?_)
    have h_z2 := hz2
    refine zok_bind (t_Arrays_fill N hN 64 (zA s0 13) (0 : Int32) (by decide) (show (0 : Int) ≤ ((0 : Int32)).toInt ∧ ((0 : Int32)).toInt ≤ 0 from ⟨by omega, by omega⟩)) (fun z4 hz4 => ?_)
    have h_z4 := hz4
    exact zok_some ⟨(IS.sA 13 z4 (IS.sA 11 z2 (IS.pI 5 ((-1) : Int32) (IS.pI 4 ((-1) : Int32) (IS.pI 3 (0 : Int32) (IS.pI 2 ((-1) : Int32) (IS.pI 1 ((-1) : Int32) (IS.pI 0 (0 : Int32) h_s0 (tr _)) (tr _)) (tr _)) (tr _)) (tr _)) (tr _)) (fun _ => tr _)) (fun _ => tr _)), (Fr.sA (Fr.sA (Fr.pI (Fr.pI (Fr.pI (Fr.pI (Fr.pI (Fr.pI g_s0 rfl) rfl) rfl) rfl) rfl) rfl) rfl) rfl)⟩
  · have q5 : ((zI s1 3)).toInt > (v3).toInt := tnle c1
    refine zok_ck (show vp_in v3 11 from vin (by omega) (by omega)) ?_
    refine zok_ite (fun c6 => ?_) (fun c6 => ?_)
    · have q7 : (0 : Int) ≤ ((zI s0 7)).toInt ∧ ((zI s0 7)).toInt ≤ 11 := (h_s0).1 7
      refine zok_ck (show vp_in (zI s0 7) 11 from vin (by omega) (by omega)) ?_
      refine zok_ck (show vp_in v3 11 from vin (by omega) (by omega)) ?_
      refine zok_ck (show vp_in (zI s0 7) 11 from vin (by omega) (by omega)) ?_
      have q8 : (0 : Int) ≤ (((zA s1 5) (Int32.toNatClampNeg v3))).toInt ∧ (((zA s1 5) (Int32.toNatClampNeg v3))).toInt ≤ 11 := (h_s1).2 5 _
      have q9 := li_1
      have q10 := tadd (zI s0 7) (1 : Int32) (by omega) (by omega)
      have q11 := tadd v3 (1 : Int32) (by omega) (by omega)
      exact t_Sets_begin_b67 N hN kh7 m7 _ _ _ _ gs0 hkh7 (IS.pI 7 ((zI s0 7) + (1 : Int32)) (IS.sA 9 (upd (zA s0 9) (Int32.toNatClampNeg (zI s0 7)) ((zA s1 5) (Int32.toNatClampNeg v3))) (IS.sA 8 (upd (zA s0 8) (Int32.toNatClampNeg (zI s0 7)) v3) h_s0 (show ∀ i, (0 : Int) ≤ ((upd (zA s0 8) (Int32.toNatClampNeg (zI s0 7)) v3) i).toInt ∧ ((upd (zA s0 8) (Int32.toNatClampNeg (zI s0 7)) v3) i).toInt ≤ 10 from (rgu (fun i => rgm ((h_s0).2 8 i) (by decide) (by decide)) ⟨by omega, by omega⟩))) (show ∀ i, (0 : Int) ≤ ((upd (zA s0 9) (Int32.toNatClampNeg (zI s0 7)) ((zA s1 5) (Int32.toNatClampNeg v3))) i).toInt ∧ ((upd (zA s0 9) (Int32.toNatClampNeg (zI s0 7)) ((zA s1 5) (Int32.toNatClampNeg v3))) i).toInt ≤ 11 from (rgu (fun i => rgm ((h_s0).2 9 i) (by decide) (by decide)) ⟨by omega, by omega⟩))) (show (0 : Int) ≤ (((zI s0 7) + (1 : Int32))).toInt ∧ (((zI s0 7) + (1 : Int32))).toInt ≤ 11 from ⟨by omega, by omega⟩)) h_s1 (show (1 : Int) ≤ ((zI s1 3)).toInt ∧ ((zI s1 3)).toInt ≤ 11 from ⟨by omega, by omega⟩) h_s2 (show (0 : Int) ≤ (v3).toInt ∧ (v3).toInt ≤ 10 from ⟨by omega, by omega⟩) (show (((zI s0 7) + (1 : Int32))).toInt ≤ ((v3 + (1 : Int32))).toInt from by omega) (Fr.pI (Fr.sA (Fr.sA g_s0 rfl) rfl) rfl) (show 12 - (v3).toInt ≤ m7 from by omega)
    · have q12 : (0 : Int) ≤ ((zI s0 7)).toInt ∧ ((zI s0 7)).toInt ≤ 11 := (h_s0).1 7
      have q13 := li_1
      have q14 := tadd v3 (1 : Int32) (by omega) (by omega)
      exact t_Sets_begin_b67 N hN kh7 m7 _ _ _ _ gs0 hkh7 h_s0 h_s1 (show (1 : Int) ≤ ((zI s1 3)).toInt ∧ ((zI s1 3)).toInt ≤ 11 from ⟨by omega, by omega⟩) h_s2 (show (0 : Int) ≤ (v3).toInt ∧ (v3).toInt ≤ 10 from ⟨by omega, by omega⟩) (show ((zI s0 7)).toInt ≤ ((v3 + (1 : Int32))).toInt from by omega) g_s0 (show 12 - (v3).toInt ≤ m7 from by omega)
theorem t_Sets_begin_h7 (N : Nat) (hN : 50000000 ≤ N) (s1 : zSt) (s2 : zSt) (gs0 : zSt) (h_s1 : I_Valley s1) (h_s2 : I_Bounds s2) : ∀ (n : Nat) (s0 : zSt) (v3 : Int32), I_Sets s0 → (0 : Int) ≤ (v3).toInt ∧ (v3).toInt ≤ 11 → ((zI s0 7)).toInt ≤ (v3).toInt → Fr [0, 1, 2, 3, 4, 5, 7] [8, 9, 11, 13] s0 gs0 → 12 - (v3).toInt ≤ (n : Int) → zok (Sets_begin_h7 N s1 s2 n s0 v3) (fun z => I_Sets z ∧ Fr [0, 1, 2, 3, 4, 5, 7] [8, 9, 11, 13] z gs0)
  | 0, s0, v3, h_s0, h_v3, hx0, g_s0, hm => absurd hm (by omega)
  | n + 1, s0, v3, h_s0, h_v3, hx0, g_s0, hm => by
    rw [Sets_begin_h7_s]
    exact t_Sets_begin_b7 N hN (Sets_begin_h7 N s1 s2 n) ((n + 1 : Nat) : Int) s0 s1 s2 v3 gs0 (fun s0 v3 h_s0 h_v3 hx0 g_s0 q => t_Sets_begin_h7 N hN  s1 s2 gs0  h_s1 h_s2   n s0 v3 h_s0 h_v3 hx0 g_s0 (by omega)) h_s0 h_s1 h_s2 h_v3 hx0 g_s0 hm
theorem t_Sets_begin_b0 (N : Nat) (hN : 50000000 ≤ N) (s0 : zSt) (s1 : zSt) (s2 : zSt) (gs0 : zSt) (h_s0 : I_Sets s0) (h_s1 : I_Valley s1) (h_s2 : I_Bounds s2) (g_s0 : Fr [0, 1, 2, 3, 4, 5, 7] [8, 9, 11, 13] s0 gs0) : zok (Sets_begin_b0 N s0 s1 s2) (fun z => I_Sets z ∧ Fr [0, 1, 2, 3, 4, 5, 7] [8, 9, 11, 13] z gs0) := by
  rw [Sets_begin_b0]
  have q1 := li_0
  exact t_Sets_begin_h7 N hN  _ _ gs0  h_s1 h_s2  N _ _ (IS.pI 7 (0 : Int32) h_s0 (show (0 : Int) ≤ ((0 : Int32)).toInt ∧ ((0 : Int32)).toInt ≤ 11 from ⟨by omega, by omega⟩)) (show (0 : Int) ≤ ((0 : Int32)).toInt ∧ ((0 : Int32)).toInt ≤ 11 from ⟨by omega, by omega⟩) (show (0 : Int) ≤ (0 : Int) from by omega) (Fr.pI g_s0 rfl) (show 12 - ((0 : Int32)).toInt ≤ (N : Int) from by omega)
theorem t_Sets_begin (N : Nat) (hN : 50000000 ≤ N) (s0 : zSt) (s1 : zSt) (s2 : zSt) (h_s0 : I_Sets s0) (h_s1 : I_Valley s1) (h_s2 : I_Bounds s2) : zok (Sets_begin N s0 s1 s2) (fun z => I_Sets z ∧ Fr [0, 1, 2, 3, 4, 5, 7] [8, 9, 11, 13] z s0) :=
  t_Sets_begin_b0 N hN s0 s1 s2 s0 h_s0 h_s1 h_s2 ⟨fun _ _ => rfl, fun _ _ => rfl⟩
theorem t_Sets_add_b3 (N : Nat) (hN : 50000000 ≤ N) (kh3 : (Nat → Int32) → Int32 → Option ((Nat → Int32))) (m3 : Int) (s0 : zSt) (n1 : Nat) (f1 : Nat → Int32) (s2 : zSt) (v1 : Int32) (v2 : Int32) (v5 : Int32) (hkh3 : ∀ (f1 : (Nat → Int32)) (v5 : Int32), (0 : Int) ≤ (v5).toInt ∧ (v5).toInt ≤ 4 → 5 - (v5).toInt ≤ m3 - 1 → zok (kh3 f1 v5) (fun z => True)) (h_s0 : I_Sets s0) (h_s0_7 : (1 : Int) ≤ (zI s0 7).toInt ∧ (zI s0 7).toInt ≤ 11) (h_n1 : n1 = 48) (h_s2 : I_Bounds s2) (h_v1 : (0 : Int) ≤ (v1).toInt ∧ (v1).toInt ≤ 10) (h_v2 : (-1 : Int) ≤ (v2).toInt ∧ (v2).toInt ≤ 1) (h_v5 : (0 : Int) ≤ (v5).toInt ∧ (v5).toInt ≤ 4) (hm3 : 5 - (v5).toInt ≤ m3) : zok (Sets_add_b3 N kh3 s0 n1 f1 s2 v1 v2 v5) (fun z => True) := by
  rw [Sets_add_b3]
  have q2 : (0 : Int) ≤ ((zI s2 2)).toInt ∧ ((zI s2 2)).toInt ≤ 4 := (h_s2).1 2
  refine zok_ite (fun c1 => ?_) (fun c1 => ?_)
  · have q3 : ((zI s2 2)).toInt ≤ (v5).toInt := tle c1
    exact zok_some trivial
  · have q4 : ((zI s2 2)).toInt > (v5).toInt := tnle c1
    refine zok_ck (show vp_in v5 4 from vin (by omega) (by omega)) ?_
    refine zok_ck (show vp_in v1 11 from vin (by omega) (by omega)) ?_
    have q5 : (0 : Int) ≤ (((zA s2 3) (Int32.toNatClampNeg v5))).toInt ∧ (((zA s2 3) (Int32.toNatClampNeg v5))).toInt ≤ 3 := (h_s2).2 3 _
    have q6 : ((((zA s2 3) (Int32.toNatClampNeg v5)) * (12 : Int32))).toInt = (((zA s2 3) (Int32.toNatClampNeg v5))).toInt * 12 := tmulr ((zA s2 3) (Int32.toNatClampNeg v5)) (12 : Int32) 12 (by decide) (by omega) (by omega)
    have q7 : (0 : Int) ≤ (((zA s0 9) (Int32.toNatClampNeg v1))).toInt ∧ (((zA s0 9) (Int32.toNatClampNeg v1))).toInt ≤ 11 := (h_s0).2 9 _
    have q8 := tadd (((zA s2 3) (Int32.toNatClampNeg v5)) * (12 : Int32)) ((zA s0 9) (Int32.toNatClampNeg v1)) (by omega) (by omega)
    refine zok_ck (show vp_in ((((zA s2 3) (Int32.toNatClampNeg v5)) * (12 : Int32)) + ((zA s0 9) (Int32.toNatClampNeg v1))) n1 from vin (by omega) (by omega)) ?_
    have q9 : ((v1 * (4 : Int32))).toInt = (v1).toInt * 4 := tmulr v1 (4 : Int32) 4 (by decide) (by omega) (by omega)
    have q10 := tadd (v1 * (4 : Int32)) ((zA s2 3) (Int32.toNatClampNeg v5)) (by omega) (by omega)
    refine zok_ck (show vp_in ((v1 * (4 : Int32)) + ((zA s2 3) (Int32.toNatClampNeg v5))) 44 from vin (by omega) (by omega)) ?_
    refine zok_ck (show vp_in ((((zA s2 3) (Int32.toNatClampNeg v5)) * (12 : Int32)) + ((zA s0 9) (Int32.toNatClampNeg v1))) n1 from vin (by omega) (by omega)) ?_
    have q11 := li_1
    have q12 := tadd v5 (1 : Int32) (by omega) (by omega)
    exact hkh3 _ _ (show (0 : Int) ≤ ((v5 + (1 : Int32))).toInt ∧ ((v5 + (1 : Int32))).toInt ≤ 4 from ⟨by omega, by omega⟩) (show 5 - ((v5 + (1 : Int32))).toInt ≤ m3 - 1 by omega)
theorem t_Sets_add_h3 (N : Nat) (hN : 50000000 ≤ N) (s0 : zSt) (n1 : Nat) (s2 : zSt) (v1 : Int32) (v2 : Int32) (h_s0 : I_Sets s0) (h_s0_7 : (1 : Int) ≤ (zI s0 7).toInt ∧ (zI s0 7).toInt ≤ 11) (h_n1 : n1 = 48) (h_s2 : I_Bounds s2) (h_v1 : (0 : Int) ≤ (v1).toInt ∧ (v1).toInt ≤ 10) (h_v2 : (-1 : Int) ≤ (v2).toInt ∧ (v2).toInt ≤ 1) : ∀ (n : Nat) (f1 : (Nat → Int32)) (v5 : Int32), (0 : Int) ≤ (v5).toInt ∧ (v5).toInt ≤ 4 → 5 - (v5).toInt ≤ (n : Int) → zok (Sets_add_h3 N s0 n1 s2 v1 v2 n f1 v5) (fun z => True)
  | 0, f1, v5, h_v5, hm => absurd hm (by omega)
  | n + 1, f1, v5, h_v5, hm => by
    rw [Sets_add_h3_s]
    exact t_Sets_add_b3 N hN (Sets_add_h3 N s0 n1 s2 v1 v2 n) ((n + 1 : Nat) : Int) s0 n1 f1 s2 v1 v2 v5  (fun f1 v5 h_v5 q => t_Sets_add_h3 N hN  s0 n1 s2 v1 v2   h_s0 h_s0_7 h_n1 h_s2 h_v1 h_v2   n f1 v5 h_v5 (by omega)) h_s0 h_s0_7 h_n1 h_s2 h_v1 h_v2 h_v5  hm
theorem t_Sets_add_b0 (N : Nat) (hN : 50000000 ≤ N) (s0 : zSt) (n1 : Nat) (f1 : Nat → Int32) (s2 : zSt) (v1 : Int32) (v2 : Int32) (h_s0 : I_Sets s0) (h_s0_7 : (1 : Int) ≤ (zI s0 7).toInt ∧ (zI s0 7).toInt ≤ 11) (h_n1 : n1 = 48) (h_s2 : I_Bounds s2) (h_v1 : (0 : Int) ≤ (v1).toInt ∧ (v1).toInt ≤ 10) (h_v2 : (-1 : Int) ≤ (v2).toInt ∧ (v2).toInt ≤ 1) : zok (Sets_add_b0 N s0 n1 f1 s2 v1 v2) (fun z => True) := by
  rw [Sets_add_b0]
  have q1 : (0 : Int) ≤ ((zI s0 7)).toInt ∧ ((zI s0 7)).toInt ≤ 11 := (h_s0).1 7
  have q2 := li_0
  exact t_Sets_add_h3 N hN  _ _ _ _ _   h_s0 (show (1 : Int) ≤ ((zI s0 7)).toInt ∧ ((zI s0 7)).toInt ≤ 11 from ⟨by omega, by omega⟩) h_n1 h_s2 (show (0 : Int) ≤ (v1).toInt ∧ (v1).toInt ≤ 10 from ⟨by omega, by omega⟩) (show (-1 : Int) ≤ (v2).toInt ∧ (v2).toInt ≤ 1 from ⟨by omega, by omega⟩)  N _ _ (show (0 : Int) ≤ ((0 : Int32)).toInt ∧ ((0 : Int32)).toInt ≤ 4 from ⟨by omega, by omega⟩) (show 5 - ((0 : Int32)).toInt ≤ (N : Int) from by omega)
theorem t_Sets_add (N : Nat) (hN : 50000000 ≤ N) (s0 : zSt) (n1 : Nat) (f1 : Nat → Int32) (s2 : zSt) (v1 : Int32) (v2 : Int32) (h_s0 : I_Sets s0) (h_s0_7 : (1 : Int) ≤ (zI s0 7).toInt ∧ (zI s0 7).toInt ≤ 11) (h_n1 : n1 = 48) (h_s2 : I_Bounds s2) (h_v1 : (0 : Int) ≤ (v1).toInt ∧ (v1).toInt ≤ 10) (h_v2 : (-1 : Int) ≤ (v2).toInt ∧ (v2).toInt ≤ 1) : zok (Sets_add N s0 n1 f1 s2 v1 v2) (fun z => True) :=
  t_Sets_add_b0 N hN s0 n1 f1 s2 v1 v2  h_s0 h_s0_7 h_n1 h_s2 h_v1 h_v2 
theorem t_Sets_weigh_b23 (N : Nat) (hN : 50000000 ≤ N) (kh11 : zSt → Int32 → Option (zSt)) (m11 : Int) (kh23 : zSt → Int32 → Option (zSt)) (m23 : Int) (s0 : zSt) (s1 : zSt) (s2 : zSt) (v3 : Int32) (v4 : Int32) (v5 : Int32) (v6 : Int32) (gs0 : zSt) (hkh11 : ∀ (s0 : zSt) (v5 : Int32), I_Sets s0 → (0 : Int) ≤ (v5).toInt ∧ (v5).toInt ≤ 11 → Fr [] [10, 12] s0 gs0 → 12 - (v5).toInt ≤ m11 - 1 → zok (kh11 s0 v5) (fun z => I_Sets z ∧ Fr [] [10, 12] z gs0)) (hkh23 : ∀ (s0 : zSt) (v6 : Int32), I_Sets s0 → (1 : Int) ≤ (zI s0 7).toInt ∧ (zI s0 7).toInt ≤ 11 → (0 : Int) ≤ (v6).toInt ∧ (v6).toInt ≤ 4 → Fr [] [10, 12] s0 gs0 → 5 - (v6).toInt ≤ m23 - 1 → zok (kh23 s0 v6) (fun z => I_Sets z ∧ Fr [] [10, 12] z gs0)) (h_s0 : I_Sets s0) (h_s0_7 : (1 : Int) ≤ (zI s0 7).toInt ∧ (zI s0 7).toInt ≤ 11) (h_s1 : I_Valley s1) (h_s2 : I_Bounds s2) (h_v3 : (0 : Int) ≤ (v3).toInt ∧ (v3).toInt ≤ 99) (h_v4 : (0 : Int) ≤ (v4).toInt ∧ (v4).toInt ≤ 20) (h_v5 : (0 : Int) ≤ (v5).toInt ∧ (v5).toInt ≤ 10) (h_v6 : (0 : Int) ≤ (v6).toInt ∧ (v6).toInt ≤ 4) (g_s0 : Fr [] [10, 12] s0 gs0) (hm11 : 12 - (v5).toInt ≤ m11) (hm23 : 5 - (v6).toInt ≤ m23) : zok (Sets_weigh_b23 N kh11 kh23 s0 s1 s2 v3 v4 v5 v6) (fun z => I_Sets z ∧ Fr [] [10, 12] z gs0) := by
  rw [Sets_weigh_b23]
  have q2 : (0 : Int) ≤ ((zI s2 2)).toInt ∧ ((zI s2 2)).toInt ≤ 4 := (h_s2).1 2
  refine zok_ite (fun c1 => ?_) (fun c1 => ?_)
  · have q3 : ((zI s2 2)).toInt ≤ (v6).toInt := tle c1
    have q4 : (0 : Int) ≤ ((zI s0 7)).toInt ∧ ((zI s0 7)).toInt ≤ 11 := (h_s0).1 7
    have q5 := li_1
    refine zok_bind (t_Sets_add N hN s0 48 (zA s0 12) s2 v5 (1 : Int32) h_s0 (show (1 : Int) ≤ ((zI s0 7)).toInt ∧ ((zI s0 7)).toInt ≤ 11 from ⟨by omega, by omega⟩) rfl h_s2 (show (0 : Int) ≤ (v5).toInt ∧ (v5).toInt ≤ 10 from ⟨by omega, by omega⟩) (show (-1 : Int) ≤ ((1 : Int32)).toInt ∧ ((1 : Int32)).toInt ≤ 1 from ⟨by omega, by omega⟩)) (fun z2 hz2 => ?_)
    have h_z2 := hz2
    have q6 := tadd v5 (1 : Int32) (by omega) (by omega)
    exact hkh11 _ _ (IS.sA 12 z2 h_s0 (fun _ => tr _)) (show (0 : Int) ≤ ((v5 + (1 : Int32))).toInt ∧ ((v5 + (1 : Int32))).toInt ≤ 11 from ⟨by omega, by omega⟩) (Fr.sA g_s0 rfl) (show 12 - ((v5 + (1 : Int32))).toInt ≤ m11 - 1 by omega)
  · have q7 : ((zI s2 2)).toInt > (v6).toInt := tnle c1
    refine zok_ck (show vp_in v6 4 from vin (by omega) (by omega)) ?_
    refine zok_ck (show vp_in v5 11 from vin (by omega) (by omega)) ?_
    have q8 : (0 : Int) ≤ (((zA s0 8) (Int32.toNatClampNeg v5))).toInt ∧ (((zA s0 8) (Int32.toNatClampNeg v5))).toInt ≤ 10 := (h_s0).2 8 _
    have q9 : (0 : Int) ≤ (((zA s2 3) (Int32.toNatClampNeg v6))).toInt ∧ (((zA s2 3) (Int32.toNatClampNeg v6))).toInt ≤ 3 := (h_s2).2 3 _
    refine zok_bind (t_Valley_loudAt N hN s1 ((zA s0 8) (Int32.toNatClampNeg v5)) ((zA s2 3) (Int32.toNatClampNeg v6)) v3 v4 h_s1 (show (0 : Int) ≤ (((zA s0 8) (Int32.toNatClampNeg v5))).toInt ∧ (((zA s0 8) (Int32.toNatClampNeg v5))).toInt ≤ 10 from ⟨by omega, by omega⟩) (show (0 : Int) ≤ (((zA s2 3) (Int32.toNatClampNeg v6))).toInt ∧ (((zA s2 3) (Int32.toNatClampNeg v6))).toInt ≤ 3 from ⟨by omega, by omega⟩) (show (0 : Int) ≤ (v3).toInt ∧ (v3).toInt ≤ 99 from ⟨by omega, by omega⟩) (show (0 : Int) ≤ (v4).toInt ∧ (v4).toInt ≤ 20 from ⟨by omega, by omega⟩)) (fun z6 hz6 => ?_)
    have h_z6 := hz6
    have q10 : ((v5 * (4 : Int32))).toInt = (v5).toInt * 4 := tmulr v5 (4 : Int32) 4 (by decide) (by omega) (by omega)
    have q11 := tadd (v5 * (4 : Int32)) ((zA s2 3) (Int32.toNatClampNeg v6)) (by omega) (by omega)
    refine zok_ck (show vp_in ((v5 * (4 : Int32)) + ((zA s2 3) (Int32.toNatClampNeg v6))) 44 from vin (by omega) (by omega)) ?_
    have q12 : (0 : Int) ≤ ((zI s0 7)).toInt ∧ ((zI s0 7)).toInt ≤ 11 := (h_s0).1 7
    have q13 := li_1
    have q14 := tadd v6 (1 : Int32) (by omega) (by omega)
    exact hkh23 _ _ (IS.sA 10 (upd (zA s0 10) (Int32.toNatClampNeg ((v5 * (4 : Int32)) + ((zA s2 3) (Int32.toNatClampNeg v6)))) z6) h_s0 (fun _ => tr _)) (show (1 : Int) ≤ ((zI s0 7)).toInt ∧ ((zI s0 7)).toInt ≤ 11 from ⟨by omega, by omega⟩) (show (0 : Int) ≤ ((v6 + (1 : Int32))).toInt ∧ ((v6 + (1 : Int32))).toInt ≤ 4 from ⟨by omega, by omega⟩) (Fr.sA g_s0 rfl) (show 5 - ((v6 + (1 : Int32))).toInt ≤ m23 - 1 by omega)
theorem t_Sets_weigh_h23 (N : Nat) (hN : 50000000 ≤ N) (kh11 : zSt → Int32 → Option (zSt)) (m11 : Int) (s1 : zSt) (s2 : zSt) (v3 : Int32) (v4 : Int32) (v5 : Int32) (gs0 : zSt) (hkh11 : ∀ (s0 : zSt) (v5 : Int32), I_Sets s0 → (0 : Int) ≤ (v5).toInt ∧ (v5).toInt ≤ 11 → Fr [] [10, 12] s0 gs0 → 12 - (v5).toInt ≤ m11 - 1 → zok (kh11 s0 v5) (fun z => I_Sets z ∧ Fr [] [10, 12] z gs0)) (h_s1 : I_Valley s1) (h_s2 : I_Bounds s2) (h_v3 : (0 : Int) ≤ (v3).toInt ∧ (v3).toInt ≤ 99) (h_v4 : (0 : Int) ≤ (v4).toInt ∧ (v4).toInt ≤ 20) (h_v5 : (0 : Int) ≤ (v5).toInt ∧ (v5).toInt ≤ 10) (hm11 : 12 - (v5).toInt ≤ m11) : ∀ (n : Nat) (s0 : zSt) (v6 : Int32), I_Sets s0 → (1 : Int) ≤ (zI s0 7).toInt ∧ (zI s0 7).toInt ≤ 11 → (0 : Int) ≤ (v6).toInt ∧ (v6).toInt ≤ 4 → Fr [] [10, 12] s0 gs0 → 5 - (v6).toInt ≤ (n : Int) → zok (Sets_weigh_h23 N kh11 s1 s2 v3 v4 v5 n s0 v6) (fun z => I_Sets z ∧ Fr [] [10, 12] z gs0)
  | 0, s0, v6, h_s0, h_s0_7, h_v6, g_s0, hm => absurd hm (by omega)
  | n + 1, s0, v6, h_s0, h_s0_7, h_v6, g_s0, hm => by
    rw [Sets_weigh_h23_s]
    exact t_Sets_weigh_b23 N hN kh11 m11 (Sets_weigh_h23 N kh11 s1 s2 v3 v4 v5 n) ((n + 1 : Nat) : Int) s0 s1 s2 v3 v4 v5 v6 gs0 hkh11 (fun s0 v6 h_s0 h_s0_7 h_v6 g_s0 q => t_Sets_weigh_h23 N hN kh11 m11 s1 s2 v3 v4 v5 gs0 hkh11 h_s1 h_s2 h_v3 h_v4 h_v5  hm11 n s0 v6 h_s0 h_s0_7 h_v6 g_s0 (by omega)) h_s0 h_s0_7 h_s1 h_s2 h_v3 h_v4 h_v5 h_v6 g_s0 hm11 hm
theorem t_Sets_weigh_b11 (N : Nat) (hN : 50000000 ≤ N) (kh11 : zSt → Int32 → Option (zSt)) (m11 : Int) (s0 : zSt) (s1 : zSt) (s2 : zSt) (v3 : Int32) (v4 : Int32) (v5 : Int32) (gs0 : zSt) (hkh11 : ∀ (s0 : zSt) (v5 : Int32), I_Sets s0 → (0 : Int) ≤ (v5).toInt ∧ (v5).toInt ≤ 11 → Fr [] [10, 12] s0 gs0 → 12 - (v5).toInt ≤ m11 - 1 → zok (kh11 s0 v5) (fun z => I_Sets z ∧ Fr [] [10, 12] z gs0)) (h_s0 : I_Sets s0) (h_s1 : I_Valley s1) (h_s2 : I_Bounds s2) (h_v3 : (0 : Int) ≤ (v3).toInt ∧ (v3).toInt ≤ 99) (h_v4 : (0 : Int) ≤ (v4).toInt ∧ (v4).toInt ≤ 20) (h_v5 : (0 : Int) ≤ (v5).toInt ∧ (v5).toInt ≤ 11) (g_s0 : Fr [] [10, 12] s0 gs0) (hm11 : 12 - (v5).toInt ≤ m11) : zok (Sets_weigh_b11 N kh11 s0 s1 s2 v3 v4 v5) (fun z => I_Sets z ∧ Fr [] [10, 12] z gs0) := by
  rw [Sets_weigh_b11]
  have q2 : (0 : Int) ≤ ((zI s0 7)).toInt ∧ ((zI s0 7)).toInt ≤ 11 := (h_s0).1 7
  refine zok_ite (fun c1 => ?_) (fun c1 => ?_)
  · have q3 : ((zI s0 7)).toInt ≤ (v5).toInt := tle c1
    exact zok_some ⟨h_s0, g_s0⟩
  · have q4 : ((zI s0 7)).toInt > (v5).toInt := tnle c1
    have q5 := li_0
    exact t_Sets_weigh_h23 N hN kh11 m11 _ _ _ _ _ gs0 hkh11 h_s1 h_s2 (show (0 : Int) ≤ (v3).toInt ∧ (v3).toInt ≤ 99 from ⟨by omega, by omega⟩) (show (0 : Int) ≤ (v4).toInt ∧ (v4).toInt ≤ 20 from ⟨by omega, by omega⟩) (show (0 : Int) ≤ (v5).toInt ∧ (v5).toInt ≤ 10 from ⟨by omega, by omega⟩) (show 12 - (v5).toInt ≤ m11 from by omega) N _ _ h_s0 (show (1 : Int) ≤ ((zI s0 7)).toInt ∧ ((zI s0 7)).toInt ≤ 11 from ⟨by omega, by omega⟩) (show (0 : Int) ≤ ((0 : Int32)).toInt ∧ ((0 : Int32)).toInt ≤ 4 from ⟨by omega, by omega⟩) g_s0 (show 5 - ((0 : Int32)).toInt ≤ (N : Int) from by omega)
theorem t_Sets_weigh_h11 (N : Nat) (hN : 50000000 ≤ N) (s1 : zSt) (s2 : zSt) (v3 : Int32) (v4 : Int32) (gs0 : zSt) (h_s1 : I_Valley s1) (h_s2 : I_Bounds s2) (h_v3 : (0 : Int) ≤ (v3).toInt ∧ (v3).toInt ≤ 99) (h_v4 : (0 : Int) ≤ (v4).toInt ∧ (v4).toInt ≤ 20) : ∀ (n : Nat) (s0 : zSt) (v5 : Int32), I_Sets s0 → (0 : Int) ≤ (v5).toInt ∧ (v5).toInt ≤ 11 → Fr [] [10, 12] s0 gs0 → 12 - (v5).toInt ≤ (n : Int) → zok (Sets_weigh_h11 N s1 s2 v3 v4 n s0 v5) (fun z => I_Sets z ∧ Fr [] [10, 12] z gs0)
  | 0, s0, v5, h_s0, h_v5, g_s0, hm => absurd hm (by omega)
  | n + 1, s0, v5, h_s0, h_v5, g_s0, hm => by
    rw [Sets_weigh_h11_s]
    exact t_Sets_weigh_b11 N hN (Sets_weigh_h11 N s1 s2 v3 v4 n) ((n + 1 : Nat) : Int) s0 s1 s2 v3 v4 v5 gs0 (fun s0 v5 h_s0 h_v5 g_s0 q => t_Sets_weigh_h11 N hN  s1 s2 v3 v4 gs0  h_s1 h_s2 h_v3 h_v4   n s0 v5 h_s0 h_v5 g_s0 (by omega)) h_s0 h_s1 h_s2 h_v3 h_v4 h_v5 g_s0 hm
theorem t_Sets_weigh_b0 (N : Nat) (hN : 50000000 ≤ N) (s0 : zSt) (s1 : zSt) (s2 : zSt) (v3 : Int32) (v4 : Int32) (gs0 : zSt) (h_s0 : I_Sets s0) (h_s1 : I_Valley s1) (h_s2 : I_Bounds s2) (h_v3 : (0 : Int) ≤ (v3).toInt ∧ (v3).toInt ≤ 99) (h_v4 : (0 : Int) ≤ (v4).toInt ∧ (v4).toInt ≤ 20) (g_s0 : Fr [] [10, 12] s0 gs0) : zok (Sets_weigh_b0 N s0 s1 s2 v3 v4) (fun z => I_Sets z ∧ Fr [] [10, 12] z gs0) := by
  rw [Sets_weigh_b0]
  have q1 := li_0
  refine zok_bind (t_Arrays_fill N hN 48 (zA s0 12) (0 : Int32) (by decide) (show (0 : Int) ≤ ((0 : Int32)).toInt ∧ ((0 : Int32)).toInt ≤ 0 from ⟨by omega, by omega⟩)) (fun z1 hz1 => ?_)
  have h_z1 := hz1
  exact t_Sets_weigh_h11 N hN  _ _ _ _ gs0  h_s1 h_s2 (show (0 : Int) ≤ (v3).toInt ∧ (v3).toInt ≤ 99 from ⟨by omega, by omega⟩) (show (0 : Int) ≤ (v4).toInt ∧ (v4).toInt ≤ 20 from ⟨by omega, by omega⟩)  N _ _ (IS.sA 12 z1 h_s0 (fun _ => tr _)) (show (0 : Int) ≤ ((0 : Int32)).toInt ∧ ((0 : Int32)).toInt ≤ 11 from ⟨by omega, by omega⟩) (Fr.sA g_s0 rfl) (show 12 - ((0 : Int32)).toInt ≤ (N : Int) from by omega)
theorem t_Sets_weigh (N : Nat) (hN : 50000000 ≤ N) (s0 : zSt) (s1 : zSt) (s2 : zSt) (v3 : Int32) (v4 : Int32) (h_s0 : I_Sets s0) (h_s1 : I_Valley s1) (h_s2 : I_Bounds s2) (h_v3 : (0 : Int) ≤ (v3).toInt ∧ (v3).toInt ≤ 99) (h_v4 : (0 : Int) ≤ (v4).toInt ∧ (v4).toInt ≤ 20) : zok (Sets_weigh N s0 s1 s2 v3 v4) (fun z => I_Sets z ∧ Fr [] [10, 12] z s0) :=
  t_Sets_weigh_b0 N hN s0 s1 s2 v3 v4 s0 h_s0 h_s1 h_s2 h_v3 h_v4 ⟨fun _ _ => rfl, fun _ _ => rfl⟩
theorem t_Sets_anyCanBe_b2 (N : Nat) (hN : 50000000 ≤ N) (kh2 : Int32 → Option (Int32)) (m2 : Int) (s0 : zSt) (s1 : zSt) (v2 : Int32) (hkh2 : ∀ (v2 : Int32), (0 : Int) ≤ (v2).toInt ∧ (v2).toInt ≤ 12 → 13 - (v2).toInt ≤ m2 - 1 → zok (kh2 v2) (fun z => ((0 : Int) ≤ (z).toInt ∧ (z).toInt ≤ 1))) (h_s0 : I_Sets s0) (h_s0_6 : (0 : Int) ≤ (zI s0 6).toInt ∧ (zI s0 6).toInt ≤ 0) (h_s1 : I_Bounds s1) (h_v2 : (0 : Int) ≤ (v2).toInt ∧ (v2).toInt ≤ 12) (hm2 : 13 - (v2).toInt ≤ m2) : zok (Sets_anyCanBe_b2 N kh2 s0 s1 v2) (fun z => ((0 : Int) ≤ (z).toInt ∧ (z).toInt ≤ 1)) := by
  rw [Sets_anyCanBe_b2]
  have q2 := li_12
  refine zok_ite (fun c1 => ?_) (fun c1 => ?_)
  · have q3 : ((12 : Int32)).toInt ≤ (v2).toInt := tle c1
    have q4 := li_1
    exact zok_some (show (0 : Int) ≤ ((1 : Int32)).toInt ∧ ((1 : Int32)).toInt ≤ 1 from ⟨by omega, by omega⟩)
  · have q5 : ((12 : Int32)).toInt > (v2).toInt := tnle c1
    refine zok_bind (t_Bounds_canBe N hN s1 48 (zA s0 11) 48 (zA s0 12) v2 h_s1 rfl rfl (show (0 : Int) ≤ (v2).toInt ∧ (v2).toInt ≤ 11 from ⟨by omega, by omega⟩)) (fun z2 hz2 => ?_)
    have h_z2 := hz2
    have q7 := li_0
    refine zok_ite (fun c6 => ?_) (fun c6 => ?_)
    · have q8 : (z2).toInt = ((0 : Int32)).toInt := teq c6
      exact zok_some (show (0 : Int) ≤ ((0 : Int32)).toInt ∧ ((0 : Int32)).toInt ≤ 1 from ⟨by omega, by omega⟩)
    · have q9 : (z2).toInt ≠ ((0 : Int32)).toInt := tneq c6
      have q10 := li_1
      have q11 := tadd v2 (1 : Int32) (by omega) (by omega)
      exact hkh2 _ (show (0 : Int) ≤ ((v2 + (1 : Int32))).toInt ∧ ((v2 + (1 : Int32))).toInt ≤ 12 from ⟨by omega, by omega⟩) (show 13 - ((v2 + (1 : Int32))).toInt ≤ m2 - 1 by omega)
theorem t_Sets_anyCanBe_h2 (N : Nat) (hN : 50000000 ≤ N) (s0 : zSt) (s1 : zSt) (h_s0 : I_Sets s0) (h_s0_6 : (0 : Int) ≤ (zI s0 6).toInt ∧ (zI s0 6).toInt ≤ 0) (h_s1 : I_Bounds s1) : ∀ (n : Nat) (v2 : Int32), (0 : Int) ≤ (v2).toInt ∧ (v2).toInt ≤ 12 → 13 - (v2).toInt ≤ (n : Int) → zok (Sets_anyCanBe_h2 N s0 s1 n v2) (fun z => ((0 : Int) ≤ (z).toInt ∧ (z).toInt ≤ 1))
  | 0, v2, h_v2, hm => absurd hm (by omega)
  | n + 1, v2, h_v2, hm => by
    rw [Sets_anyCanBe_h2_s]
    exact t_Sets_anyCanBe_b2 N hN (Sets_anyCanBe_h2 N s0 s1 n) ((n + 1 : Nat) : Int) s0 s1 v2  (fun v2 h_v2 q => t_Sets_anyCanBe_h2 N hN  s0 s1   h_s0 h_s0_6 h_s1   n v2 h_v2 (by omega)) h_s0 h_s0_6 h_s1 h_v2  hm
theorem t_Sets_anyCanBe_b0 (N : Nat) (hN : 50000000 ≤ N) (s0 : zSt) (s1 : zSt) (h_s0 : I_Sets s0) (h_s0_6 : (0 : Int) ≤ (zI s0 6).toInt ∧ (zI s0 6).toInt ≤ 0) (h_s1 : I_Bounds s1) : zok (Sets_anyCanBe_b0 N s0 s1) (fun z => ((0 : Int) ≤ (z).toInt ∧ (z).toInt ≤ 1)) := by
  rw [Sets_anyCanBe_b0]
  have q1 : (0 : Int) ≤ ((zI s0 6)).toInt ∧ ((zI s0 6)).toInt ≤ 1 := (h_s0).1 6
  have q2 := li_0
  exact t_Sets_anyCanBe_h2 N hN  _ _   h_s0 (show (0 : Int) ≤ ((zI s0 6)).toInt ∧ ((zI s0 6)).toInt ≤ 0 from ⟨by omega, by omega⟩) h_s1  N _ (show (0 : Int) ≤ ((0 : Int32)).toInt ∧ ((0 : Int32)).toInt ≤ 12 from ⟨by omega, by omega⟩) (show 13 - ((0 : Int32)).toInt ≤ (N : Int) from by omega)
theorem t_Sets_anyCanBe (N : Nat) (hN : 50000000 ≤ N) (s0 : zSt) (s1 : zSt) (h_s0 : I_Sets s0) (h_s0_6 : (0 : Int) ≤ (zI s0 6).toInt ∧ (zI s0 6).toInt ≤ 0) (h_s1 : I_Bounds s1) : zok (Sets_anyCanBe N s0 s1) (fun z => ((0 : Int) ≤ (z).toInt ∧ (z).toInt ≤ 1)) :=
  t_Sets_anyCanBe_b0 N hN s0 s1  h_s0 h_s0_6 h_s1 
theorem sl_ok : ∀ n, n < 32 → ((nI n &&& 31).toBitVec.smod 32).toNat = n := by decide +kernel
theorem i_nat {x : Int32} {b : Int} (h : 0 ≤ x.toInt) (hb : x.toInt ≤ b) : ∃ n : Nat, x = nI n ∧ (n : Int) ≤ b ∧ n < 2 ^ 31 := by
  have e0 : (0 : Int32).toInt = 0 := by decide
  obtain ⟨j, hj, rfl⟩ := nI_of (x := x) (fun q => by rw [Int32.lt_iff_toInt_lt] at q; omega)
  rw [nI_toInt hj] at hb
  exact ⟨j, rfl, hb, hj⟩
theorem nI_subI {a b : Nat} (h : b ≤ a) (ha : a < 2 ^ 31) : nI a - nI b = nI (a - b) := by
  apply Int32.toInt_inj.mp
  have e1 := nI_toInt ha
  have e2 := nI_toInt (n := b) (by omega)
  have e3 := nI_toInt (n := a - b) (by omega)
  rw [tsub _ _ (by omega) (by omega)]
  omega
theorem t_Sets_allSeen {N a b c : Nat} {s : zSt} (h7 : zI s 7 = nI c) (hc : c ≤ 11) (ha : a ≤ c) (hb : b < 2 ^ a) : zok (Sets_allSeen N s (nI a) (nI b)) (fun _ => True) := by
  have hp : 2 ^ a ≤ 2 ^ 11 := Nat.pow_le_pow_right (by decide) (by omega)
  unfold Sets_allSeen Sets_allSeen_b0
  rw [h7, nI_subI ha (by omega)]
  refine zok_ite (fun q => ?_) (fun _ => zok_ite (fun _ => zok_some trivial) (fun _ => zok_some trivial))
  have hl : c - a ≤ 5 := by
    have e := tshl_all (c - a) (by omega)
    rw [e] at q
    have q := (zleL (k := 32) (Nat.lt_of_le_of_lt (Nat.pow_le_pow_right (by decide) (show c - a ≤ 11 by omega)) (by decide)) (by decide)).mp q
    rcases Nat.lt_or_ge 5 (c - a) with l | l
    · have : 2 ^ 6 ≤ 2 ^ (c - a) := Nat.pow_le_pow_right (by decide) l
      omega
    · exact l
  have hm : b * 2 ^ (c - a) < 2 ^ c := by
    have : 2 ^ c = 2 ^ a * 2 ^ (c - a) := by rw [← Nat.pow_add]; congr 1; omega
    rw [this]
    exact Nat.mul_lt_mul_of_pos_right hb (Nat.two_pow_pos _)
  have hm2 : 2 ^ c ≤ 2 ^ 11 := Nat.pow_le_pow_right (by decide) hc
  unfold Sets_allSeen_b55
  rw [pk_shlN _ (c - a) (sl_ok _ (by omega)) (by omega)]
  have e := nI_toInt (n := b * 2 ^ (c - a)) (by omega)
  have d := tdiv (nI (b * 2 ^ (c - a))) 32 32 (by decide) (by decide) (by omega)
  refine zok_ck (vin (by omega) (by omega)) ?_
  exact zok_ite (fun _ => zok_some trivial) (fun _ => zok_some trivial)
theorem t_Sets_keep {N b : Nat} {s : zSt} (hs : I_Sets s) (hb : b < 2048) : zok (Sets_keep N s (nI b)) (fun z => I_Sets z ∧ Fr [0, 1, 2, 6] [13] z s) := by
  have e := nI_toInt (n := b) (by omega)
  have d := tdiv (nI b) 32 32 (by decide) (by decide) (by omega)
  have v : vp_in (nI b / 32) 64 := vin (by omega) (by omega)
  have e1 : (1 : Int32).toInt = 1 := by decide
  unfold Sets_keep Sets_keep_b0
  refine zok_ck v ?_
  refine zok_ite (fun _ => ?_) (fun _ => ?_)
  · refine zok_ck v (zok_ck v (zok_some ⟨?_, ?_⟩))
    · exact IS.pI 2 _ (IS.pI 1 _ (IS.pI 0 _ (IS.sA 13 _ (IS.pI 6 1 hs (show (0 : Int) ≤ (1 : Int32).toInt ∧ (1 : Int32).toInt ≤ 1 by omega)) (fun _ => tr _)) (tr _)) (tr _)) (tr _)
    · exact Fr.pI (Fr.pI (Fr.pI (Fr.sA (Fr.pI Fr.rf rfl) rfl) rfl) rfl) rfl
  · exact zok_some ⟨IS.pI 6 1 hs (show (0 : Int) ≤ (1 : Int32).toInt ∧ (1 : Int32).toInt ≤ 1 by omega), Fr.pI Fr.rf rfl⟩
theorem choose_add {N : Nat} (hN : 50000000 ≤ N) {a : Nat} {s s1 : zSt} {f : Nat → Int32} {v : Int32} (hs : I_Sets s) (h7 : (1 : Int) ≤ (zI s 7).toInt ∧ (zI s 7).toInt ≤ 11) (h1 : I_Bounds s1) (ha : a ≤ 10) (hv : -1 ≤ v.toInt ∧ v.toInt ≤ 1) : zok (Sets_add N s 48 f s1 (nI a) v) (fun _ => True) := by
  have e := nI_toInt (n := a) (by omega)
  exact t_Sets_add N hN s 48 f s1 (nI a) v hs h7 rfl h1 ⟨by omega, by omega⟩ hv
theorem nI_toNat {n : Nat} (h : n < 2 ^ 32) : (nI n).toBitVec.toNat = n := by
  show (BitVec.ofNat 32 n).toNat = n
  rw [BitVec.toNat_ofNat]
  exact Nat.mod_eq_of_lt h
theorem nI_or1 {b : Nat} (hb : b < 2048) : nI (b * 2) ||| 1 = nI (b * 2 + 1) := by
  have e : b * 2 ||| 1 = b * 2 + 1 := by
    have := Nat.shiftLeft_add_eq_or_of_lt (i := 1) (b := 1) (by decide) b
    rw [Nat.shiftLeft_eq] at this
    exact this.symm
  rw [← e]
  apply Int32.toBitVec_inj.mp
  rw [Int32.toBitVec_or]
  apply BitVec.eq_of_toNat_eq
  rw [BitVec.toNat_or]
  have h1 : (nI (b * 2)).toBitVec.toNat = b * 2 := nI_toNat (by omega)
  have h2 : (nI (b * 2 ||| 1)).toBitVec.toNat = b * 2 ||| 1 := nI_toNat (by rw [e]; omega)
  rw [h1, h2]
  rfl
theorem choose_ok {N : Nat} (hN : 50000000 ≤ N) : ∀ (d : Nat) (s0 s1 : zSt) (a b c : Nat), I_Sets s0 → I_Bounds s1 → zI s0 7 = nI c → c ≤ 11 → a ≤ c → b < 2 ^ a → c - a < d → zok (Sets_choose N d s0 s1 (nI a) (nI b)) (fun z => I_Sets z ∧ Fr [0, 1, 2, 6] [11, 12, 13] z s0) := by
  intro d
  induction d with
  | zero => intro s0 s1 a b c _ _ _ _ _ _ h; exact absurd h (by omega)
  | succ d ih =>
    intro s0 s1 a b c hs h1 h7 hc hac hb hd
    have hp : 2 ^ a ≤ 2 ^ 11 := Nat.pow_le_pow_right (by decide) (by omega)
    have e1 : (1 : Int32).toInt = 1 := by decide
    have em : ((-1) : Int32).toInt = -1 := by decide
    have eb1 : nI b <<< ((1 : Int32) &&& 31) = nI (b * 2) := pk_shlN _ 1 (by decide) (by omega)
    have ea1 : nI a + 1 = nI (a + 1) := nI_add a 1
    have h7' : ∀ t, Fr [0, 1, 2, 6] [11, 12, 13] t s0 → zI t 7 = nI c := fun t ht => by rw [ht.1 7 rfl]; exact h7
    have h7r : ∀ t, a < c → Fr [0, 1, 2, 6] [11, 12, 13] t s0 → (1 : Int) ≤ (zI t 7).toInt ∧ (zI t 7).toInt ≤ 11 := fun t hl ht => by
      rw [h7' t ht, nI_toInt (by omega)]; omega
    have b119 : ∀ t, a < c → I_Sets t → Fr [0, 1, 2, 6] [11, 12, 13] t s0 → zok (Sets_choose_b119 N (Sets_choose N d) t s1 (nI a)) (fun z => I_Sets z ∧ Fr [0, 1, 2, 6] [11, 12, 13] z s0) := by
      intro t hl ht hf
      unfold Sets_choose_b119
      refine zok_bind (choose_add hN ht (h7r t hl hf) h1 (by omega) (by omega)) (fun z1 _ => ?_)
      refine zok_bind (choose_add hN (IS.sA 11 z1 ht (fun _ => tr _)) (h7r t hl hf) h1 (by omega) (by omega)) (fun z3 _ => ?_)
      exact zok_some ⟨IS.sA 12 z3 (IS.sA 11 z1 ht (fun _ => tr _)) (fun _ => tr _), Fr.sA (Fr.sA hf rfl) rfl⟩
    have b74 : ∀ t, a < c → I_Sets t → Fr [0, 1, 2, 6] [11, 12, 13] t s0 → zok (Sets_choose_b74 N (Sets_choose N d) t s1 (nI a) (nI b)) (fun z => I_Sets z ∧ Fr [0, 1, 2, 6] [11, 12, 13] z s0) := by
      intro t hl ht hf
      unfold Sets_choose_b74
      refine zok_bind (choose_add hN ht (h7r t hl hf) h1 (by omega) (by omega)) (fun z1 _ => ?_)
      refine zok_ck (vp_in_nI (by omega) (by decide)) ?_
      refine zok_bind (t_Bounds_canBe N hN s1 48 z1 48 (zA t 12) _ h1 rfl rfl (ht.2 9 _)) (fun z4 _ => ?_)
      refine zok_ite (fun _ => b119 _ hl (IS.sA 11 z1 ht (fun _ => tr _)) (Fr.sA hf rfl)) (fun _ => ?_)
      rw [eb1, nI_or1 (by omega), ea1]
      refine zok_bind (ih (zsA t 11 z1) s1 (a + 1) (b * 2 + 1) c (IS.sA 11 z1 ht (fun _ => tr _)) h1 (h7' t hf) hc (by omega) (by rw [Nat.pow_succ]; omega) (by omega)) (fun z7 hz => ?_)
      exact b119 _ hl hz.1 (Fr.tr hz.2 (Fr.sA hf rfl) rfl rfl)
    have b17 : zok (Sets_choose_b17 N (Sets_choose N d) s0 s1 (nI a) (nI b)) (fun z => I_Sets z ∧ Fr [0, 1, 2, 6] [11, 12, 13] z s0) := by
      unfold Sets_choose_b17
      rw [h7]
      refine zok_ite (fun q => ?_) (fun _ => ?_)
      · have hl : a < c := (nI_ltI (by omega) (by omega)).mp q
        refine zok_bind (choose_add hN hs (h7r s0 hl Fr.rf) h1 (by omega) (by omega)) (fun z2 _ => ?_)
        refine zok_ck (vp_in_nI (by omega) (by decide)) ?_
        refine zok_bind (t_Bounds_canBe N hN s1 48 (zA s0 11) 48 z2 _ h1 rfl rfl (hs.2 9 _)) (fun z5 _ => ?_)
        refine zok_ite (fun _ => b74 _ hl (IS.sA 12 z2 hs (fun _ => tr _)) (Fr.sA Fr.rf rfl)) (fun _ => ?_)
        rw [eb1, ea1]
        refine zok_bind (ih (zsA s0 12 z2) s1 (a + 1) (b * 2) c (IS.sA 12 z2 hs (fun _ => tr _)) h1 h7 hc (by omega) (by rw [Nat.pow_succ]; omega) (by omega)) (fun z8 hz => ?_)
        exact b74 _ hl hz.1 (Fr.tr hz.2 (Fr.sA Fr.rf rfl) rfl rfl)
      · refine zok_bind (t_Sets_keep hs (by omega)) (fun z10 hz => ?_)
        exact zok_some ⟨IS.mg _ hz.1 hs, Fr.mg (Fr.tr hz.2 Fr.rf rfl rfl) Fr.rf⟩
    rw [Sets_choose_s]
    unfold Sets_choose_b0
    refine zok_ite (fun _ => b17) (fun _ => ?_)
    refine zok_bind (t_Sets_allSeen h7 hc hac hb) (fun z2 _ => ?_)
    exact zok_ite (fun _ => b17) (fun _ => zok_some ⟨hs, Fr.rf⟩)
theorem t_Sets_choose (N : Nat) (hN : 50000000 ≤ N) (d : Nat) (s0 s1 : zSt) (v1 v2 : Int32) (h_s0 : I_Sets s0) (h6 : (0 : Int) ≤ (zI s0 6).toInt ∧ (zI s0 6).toInt ≤ 0) (h_s1 : I_Bounds s1) (h_v1 : (0 : Int) ≤ (v1).toInt ∧ (v1).toInt ≤ 0) (h_v2 : (0 : Int) ≤ (v2).toInt ∧ (v2).toInt ≤ 0) (hd : d = 14 := by rfl) : zok (Sets_choose N d s0 s1 v1 v2) (fun z => I_Sets z ∧ Fr [0, 1, 2, 6] [11, 12, 13] z s0) := by
  obtain ⟨a, e1, l1, m1⟩ := i_nat h_v1.1 h_v1.2
  obtain ⟨b, e2, l2, m2⟩ := i_nat h_v2.1 h_v2.2
  have h7 : (0 : Int) ≤ (zI s0 7).toInt ∧ (zI s0 7).toInt ≤ 11 := h_s0.1 7
  obtain ⟨c, e3, l3, m3⟩ := i_nat h7.1 h7.2
  have ea : a = 0 := by omega
  have eb : b = 0 := by omega
  subst e1 e2 ea eb hd
  exact choose_ok hN 14 s0 s1 0 0 c h_s0 h_s1 e3 (by omega) (by omega) (by decide) (by omega)
theorem t_Sets_spread_b4 (N : Nat) (hN : 50000000 ≤ N) (kh4 : Int32 → Int32 → Option (Int32)) (m4 : Int) (s0 : zSt) (v1 : Int32) (v2 : Int32) (v3 : Int32) (hkh4 : ∀ (v2 : Int32) (v3 : Int32), (0 : Int) ≤ (v3).toInt ∧ (v3).toInt ≤ 11 → 12 - (v3).toInt ≤ m4 - 1 → zok (kh4 v2 v3) (fun z => True)) (h_s0 : I_Sets s0) (h_v3 : (0 : Int) ≤ (v3).toInt ∧ (v3).toInt ≤ 11) (hm4 : 12 - (v3).toInt ≤ m4) : zok (Sets_spread_b4 N kh4 s0 v1 v2 v3) (fun z => True) := by
  rw [Sets_spread_b4]
  have q2 : (0 : Int) ≤ ((zI s0 7)).toInt ∧ ((zI s0 7)).toInt ≤ 11 := (h_s0).1 7
  refine zok_ite (fun c1 => ?_) (fun c1 => ?_)
  · have q3 : ((zI s0 7)).toInt ≤ (v3).toInt := tle c1
    exact zok_some trivial
  · have q4 : ((zI s0 7)).toInt > (v3).toInt := tnle c1
    refine zok_ck (show vp_in v3 11 from vin (by omega) (by omega)) ?_
    have q5 := li_1
    have q6 := tadd v3 (1 : Int32) (by omega) (by omega)
    exact hkh4 _ _ (show (0 : Int) ≤ ((v3 + (1 : Int32))).toInt ∧ ((v3 + (1 : Int32))).toInt ≤ 11 from ⟨by omega, by omega⟩) (show 12 - ((v3 + (1 : Int32))).toInt ≤ m4 - 1 by omega)
theorem t_Sets_spread_h4 (N : Nat) (hN : 50000000 ≤ N) (s0 : zSt) (v1 : Int32) (h_s0 : I_Sets s0) : ∀ (n : Nat) (v2 : Int32) (v3 : Int32), (0 : Int) ≤ (v3).toInt ∧ (v3).toInt ≤ 11 → 12 - (v3).toInt ≤ (n : Int) → zok (Sets_spread_h4 N s0 v1 n v2 v3) (fun z => True)
  | 0, v2, v3, h_v3, hm => absurd hm (by omega)
  | n + 1, v2, v3, h_v3, hm => by
    rw [Sets_spread_h4_s]
    exact t_Sets_spread_b4 N hN (Sets_spread_h4 N s0 v1 n) ((n + 1 : Nat) : Int) s0 v1 v2 v3  (fun v2 v3 h_v3 q => t_Sets_spread_h4 N hN  s0 v1   h_s0   n v2 v3 h_v3 (by omega)) h_s0 h_v3  hm
theorem t_Sets_spread_b0 (N : Nat) (hN : 50000000 ≤ N) (s0 : zSt) (v1 : Int32) (h_s0 : I_Sets s0) : zok (Sets_spread_b0 N s0 v1) (fun z => True) := by
  rw [Sets_spread_b0]
  have q1 := li_0
  exact t_Sets_spread_h4 N hN  _ _   h_s0  N _ _ (show (0 : Int) ≤ ((0 : Int32)).toInt ∧ ((0 : Int32)).toInt ≤ 11 from ⟨by omega, by omega⟩) (show 12 - ((0 : Int32)).toInt ≤ (N : Int) from by omega)
theorem t_Sets_spread (N : Nat) (hN : 50000000 ≤ N) (s0 : zSt) (v1 : Int32) (h_s0 : I_Sets s0) : zok (Sets_spread N s0 v1) (fun z => True) :=
  t_Sets_spread_b0 N hN s0 v1  h_s0 
theorem t_Sets_seek_b138 (N : Nat) (hN : 50000000 ≤ N) (s0 : zSt) (s1 : zSt) (s2 : zSt) (t1 : Int32) (gs0 : zSt) (h_s0 : I_Sets s0) (h_s1 : I_Valley s1) (h_s2 : I_Bounds s2) (g_s0 : Fr [0, 1, 2, 3, 4, 5, 6, 7] [8, 9, 10, 11, 12, 13] s0 gs0) : zok (Sets_seek_b138 N s0 s1 s2 t1) (fun z => I_Sets z ∧ Fr [0, 1, 2, 3, 4, 5, 6, 7] [8, 9, 10, 11, 12, 13] z gs0) := by
  rw [Sets_seek_b138]
  exact zok_some ⟨(IS.pI 0 ((zI s0 0) <<< (((zI s1 3) - (zI s0 7)) &&& (31 : Int32))) (IS.pI 2 t1 h_s0 (tr _)) (tr _)), (Fr.pI (Fr.pI g_s0 rfl) rfl)⟩
theorem t_Sets_seek_b115 (N : Nat) (hN : 50000000 ≤ N) (s0 : zSt) (s1 : zSt) (s2 : zSt) (t1 : Int32) (gs0 : zSt) (h_s0 : I_Sets s0) (h_s1 : I_Valley s1) (h_s2 : I_Bounds s2) (g_s0 : Fr [0, 1, 2, 3, 4, 5, 6, 7] [8, 9, 10, 11, 12, 13] s0 gs0) : zok (Sets_seek_b115 N s0 s1 s2 t1) (fun z => I_Sets z ∧ Fr [0, 1, 2, 3, 4, 5, 6, 7] [8, 9, 10, 11, 12, 13] z gs0) := by
  rw [Sets_seek_b115]
  have q2 := tr (zI s0 0)
  have q3 := li_0
  refine zok_ite (fun c1 => ?_) (fun c1 => ?_)
  · have q4 : ((zI s0 0)).toInt = ((0 : Int32)).toInt := teq c1
    exact t_Sets_seek_b138 N hN  _ _ _ _ gs0  (IS.pI 1 t1 h_s0 (tr _)) h_s1 h_s2 (Fr.pI g_s0 rfl) 
  · have q5 : ((zI s0 0)).toInt ≠ ((0 : Int32)).toInt := tneq c1
    refine zok_bind (t_Sets_spread N hN (zpI s0 1 t1) (zI s0 2) (IS.pI 1 t1 h_s0 (tr _))) (fun z2 hz2 => ?_)
    have h_z2 := hz2
    exact t_Sets_seek_b138 N hN  _ _ _ _ gs0  (IS.pI 1 t1 h_s0 (tr _)) h_s1 h_s2 (Fr.pI g_s0 rfl) 
theorem t_Sets_seek_b89 (N : Nat) (hN : 50000000 ≤ N) (kh9 : zSt → Int32 → Option (zSt)) (m9 : Int) (s0 : zSt) (s1 : zSt) (s2 : zSt) (v3 : Int32) (v4 : Int32) (gs0 : zSt) (hkh9 : ∀ (s0 : zSt) (v4 : Int32), I_Sets s0 → (0 : Int) ≤ (v4).toInt ∧ (v4).toInt ≤ 100 → Fr [0, 1, 2, 3, 4, 5, 6, 7] [8, 9, 10, 11, 12, 13] s0 gs0 → 101 - (v4).toInt ≤ m9 - 1 → zok (kh9 s0 v4) (fun z => I_Sets z ∧ Fr [0, 1, 2, 3, 4, 5, 6, 7] [8, 9, 10, 11, 12, 13] z gs0)) (h_s0 : I_Sets s0) (h_s1 : I_Valley s1) (h_s2 : I_Bounds s2) (h_v3 : (0 : Int) ≤ (v3).toInt ∧ (v3).toInt ≤ 20) (h_v4 : (0 : Int) ≤ (v4).toInt ∧ (v4).toInt ≤ 99) (g_s0 : Fr [0, 1, 2, 3, 4, 5, 6, 7] [8, 9, 10, 11, 12, 13] s0 gs0) (hm9 : 101 - (v4).toInt ≤ m9) : zok (Sets_seek_b89 N kh9 s0 s1 s2 v3 v4) (fun z => I_Sets z ∧ Fr [0, 1, 2, 3, 4, 5, 6, 7] [8, 9, 10, 11, 12, 13] z gs0) := by
  rw [Sets_seek_b89]
  have q1 := li_1
  have q2 := tadd v4 (1 : Int32) (by omega) (by omega)
  exact hkh9 _ _ h_s0 (show (0 : Int) ≤ ((v4 + (1 : Int32))).toInt ∧ ((v4 + (1 : Int32))).toInt ≤ 100 from ⟨by omega, by omega⟩) g_s0 (show 101 - ((v4 + (1 : Int32))).toInt ≤ m9 - 1 by omega)
theorem t_Sets_seek_b80 (N : Nat) (hN : 50000000 ≤ N) (kh9 : zSt → Int32 → Option (zSt)) (m9 : Int) (s0 : zSt) (s1 : zSt) (s2 : zSt) (v3 : Int32) (v4 : Int32) (t1 : Int32) (gs0 : zSt) (hkh9 : ∀ (s0 : zSt) (v4 : Int32), I_Sets s0 → (0 : Int) ≤ (v4).toInt ∧ (v4).toInt ≤ 100 → Fr [0, 1, 2, 3, 4, 5, 6, 7] [8, 9, 10, 11, 12, 13] s0 gs0 → 101 - (v4).toInt ≤ m9 - 1 → zok (kh9 s0 v4) (fun z => I_Sets z ∧ Fr [0, 1, 2, 3, 4, 5, 6, 7] [8, 9, 10, 11, 12, 13] z gs0)) (h_s0 : I_Sets s0) (h_s0_6 : (1 : Int) ≤ (zI s0 6).toInt ∧ (zI s0 6).toInt ≤ 1) (h_s1 : I_Valley s1) (h_s2 : I_Bounds s2) (h_v3 : (0 : Int) ≤ (v3).toInt ∧ (v3).toInt ≤ 20) (h_v4 : (0 : Int) ≤ (v4).toInt ∧ (v4).toInt ≤ 99) (g_s0 : Fr [0, 1, 2, 3, 4, 5, 6, 7] [8, 9, 10, 11, 12, 13] s0 gs0) (hm9 : 101 - (v4).toInt ≤ m9) : zok (Sets_seek_b80 N kh9 s0 s1 s2 v3 v4 t1) (fun z => I_Sets z ∧ Fr [0, 1, 2, 3, 4, 5, 6, 7] [8, 9, 10, 11, 12, 13] z gs0) := by
  rw [Sets_seek_b80]
  exact t_Sets_seek_b89 N hN kh9 m9 _ _ _ _ _ gs0 hkh9 (IS.pI 5 v4 (IS.pI 4 t1 h_s0 (tr _)) (tr _)) h_s1 h_s2 (show (0 : Int) ≤ (v3).toInt ∧ (v3).toInt ≤ 20 from ⟨by omega, by omega⟩) (show (0 : Int) ≤ (v4).toInt ∧ (v4).toInt ≤ 99 from ⟨by omega, by omega⟩) (Fr.pI (Fr.pI g_s0 rfl) rfl) (show 101 - (v4).toInt ≤ m9 from by omega)
theorem t_Sets_seek_b45 (N : Nat) (hN : 50000000 ≤ N) (kh9 : zSt → Int32 → Option (zSt)) (m9 : Int) (s0 : zSt) (s1 : zSt) (s2 : zSt) (v3 : Int32) (v4 : Int32) (gs0 : zSt) (hkh9 : ∀ (s0 : zSt) (v4 : Int32), I_Sets s0 → (0 : Int) ≤ (v4).toInt ∧ (v4).toInt ≤ 100 → Fr [0, 1, 2, 3, 4, 5, 6, 7] [8, 9, 10, 11, 12, 13] s0 gs0 → 101 - (v4).toInt ≤ m9 - 1 → zok (kh9 s0 v4) (fun z => I_Sets z ∧ Fr [0, 1, 2, 3, 4, 5, 6, 7] [8, 9, 10, 11, 12, 13] z gs0)) (h_s0 : I_Sets s0) (h_s1 : I_Valley s1) (h_s2 : I_Bounds s2) (h_v3 : (0 : Int) ≤ (v3).toInt ∧ (v3).toInt ≤ 20) (h_v4 : (0 : Int) ≤ (v4).toInt ∧ (v4).toInt ≤ 99) (g_s0 : Fr [0, 1, 2, 3, 4, 5, 6, 7] [8, 9, 10, 11, 12, 13] s0 gs0) (hm9 : 101 - (v4).toInt ≤ m9) : zok (Sets_seek_b45 N kh9 s0 s1 s2 v3 v4) (fun z => I_Sets z ∧ Fr [0, 1, 2, 3, 4, 5, 6, 7] [8, 9, 10, 11, 12, 13] z gs0) := by
  rw [Sets_seek_b45]
  have q2 : (0 : Int) ≤ ((zI s0 6)).toInt ∧ ((zI s0 6)).toInt ≤ 1 := (h_s0).1 6
  have q3 := li_0
  refine zok_ite (fun c1 => ?_) (fun c1 => ?_)
  · have q4 : ((zI s0 6)).toInt = ((0 : Int32)).toInt := teq c1
    exact t_Sets_seek_b89 N hN kh9 m9 _ _ _ _ _ gs0 hkh9 h_s0 h_s1 h_s2 (show (0 : Int) ≤ (v3).toInt ∧ (v3).toInt ≤ 20 from ⟨by omega, by omega⟩) (show (0 : Int) ≤ (v4).toInt ∧ (v4).toInt ≤ 99 from ⟨by omega, by omega⟩) g_s0 (show 101 - (v4).toInt ≤ m9 from by omega)
  · have q5 : ((zI s0 6)).toInt ≠ ((0 : Int32)).toInt := tneq c1
    have q7 := tr (zI s0 4)
    have q8 := li_m1
    refine zok_ite (fun c6 => ?_) (fun c6 => ?_)
    · have q9 : ((zI s0 4)).toInt = (((-1) : Int32)).toInt := teq c6
      exact t_Sets_seek_b80 N hN kh9 m9 _ _ _ _ _ _ gs0 hkh9 (IS.pI 3 ((zI s0 3) + (1 : Int32)) h_s0 (tr _)) (show (1 : Int) ≤ ((zI s0 6)).toInt ∧ ((zI s0 6)).toInt ≤ 1 from ⟨by omega, by omega⟩) h_s1 h_s2 (show (0 : Int) ≤ (v3).toInt ∧ (v3).toInt ≤ 20 from ⟨by omega, by omega⟩) (show (0 : Int) ≤ (v4).toInt ∧ (v4).toInt ≤ 99 from ⟨by omega, by omega⟩) (Fr.pI g_s0 rfl) (show 101 - (v4).toInt ≤ m9 from by omega)
    · have q10 : ((zI s0 4)).toInt ≠ (((-1) : Int32)).toInt := tneq c6
      exact t_Sets_seek_b80 N hN kh9 m9 _ _ _ _ _ _ gs0 hkh9 (IS.pI 3 ((zI s0 3) + (1 : Int32)) h_s0 (tr _)) (show (1 : Int) ≤ ((zI s0 6)).toInt ∧ ((zI s0 6)).toInt ≤ 1 from ⟨by omega, by omega⟩) h_s1 h_s2 (show (0 : Int) ≤ (v3).toInt ∧ (v3).toInt ≤ 20 from ⟨by omega, by omega⟩) (show (0 : Int) ≤ (v4).toInt ∧ (v4).toInt ≤ 99 from ⟨by omega, by omega⟩) (Fr.pI g_s0 rfl) (show 101 - (v4).toInt ≤ m9 from by omega)
theorem t_Sets_seek_b9 (N : Nat) (hN : 50000000 ≤ N) (kh9 : zSt → Int32 → Option (zSt)) (m9 : Int) (s0 : zSt) (s1 : zSt) (s2 : zSt) (v3 : Int32) (v4 : Int32) (gs0 : zSt) (hkh9 : ∀ (s0 : zSt) (v4 : Int32), I_Sets s0 → (0 : Int) ≤ (v4).toInt ∧ (v4).toInt ≤ 100 → Fr [0, 1, 2, 3, 4, 5, 6, 7] [8, 9, 10, 11, 12, 13] s0 gs0 → 101 - (v4).toInt ≤ m9 - 1 → zok (kh9 s0 v4) (fun z => I_Sets z ∧ Fr [0, 1, 2, 3, 4, 5, 6, 7] [8, 9, 10, 11, 12, 13] z gs0)) (h_s0 : I_Sets s0) (h_s1 : I_Valley s1) (h_s2 : I_Bounds s2) (h_v3 : (0 : Int) ≤ (v3).toInt ∧ (v3).toInt ≤ 20) (h_v4 : (0 : Int) ≤ (v4).toInt ∧ (v4).toInt ≤ 100) (g_s0 : Fr [0, 1, 2, 3, 4, 5, 6, 7] [8, 9, 10, 11, 12, 13] s0 gs0) (hm9 : 101 - (v4).toInt ≤ m9) : zok (Sets_seek_b9 N kh9 s0 s1 s2 v3 v4) (fun z => I_Sets z ∧ Fr [0, 1, 2, 3, 4, 5, 6, 7] [8, 9, 10, 11, 12, 13] z gs0) := by
  rw [Sets_seek_b9]
  have q2 := li_99
  refine zok_ite (fun c1 => ?_) (fun c1 => ?_)
  · have q3 : ((99 : Int32)).toInt < (v4).toInt := tlt c1
    have q5 := tr (zI s0 0)
    have q6 := li_0
    refine zok_ite (fun c4 => ?_) (fun c4 => ?_)
    · have q7 : ((zI s0 0)).toInt = ((0 : Int32)).toInt := teq c4
      exact t_Sets_seek_b115 N hN  _ _ _ _ gs0  h_s0 h_s1 h_s2 g_s0 
    · have q8 : ((zI s0 0)).toInt ≠ ((0 : Int32)).toInt := tneq c4
      refine zok_bind (t_Sets_spread N hN s0 (zI s0 1) h_s0) (fun z3 hz3 => ?_)
      have h_z3 := hz3
      exact t_Sets_seek_b115 N hN  _ _ _ _ gs0  h_s0 h_s1 h_s2 g_s0 
  · have q9 : ((99 : Int32)).toInt ≥ (v4).toInt := tnlt c1
    refine zok_bind (t_Sets_weigh N hN s0 s1 s2 v4 v3 h_s0 h_s1 h_s2 (show (0 : Int) ≤ (v4).toInt ∧ (v4).toInt ≤ 99 from ⟨by omega, by omega⟩) (show (0 : Int) ≤ (v3).toInt ∧ (v3).toInt ≤ 20 from ⟨by omega, by omega⟩)) (fun z5 hz5 => ?_)
    obtain ⟨h_z5, fr_z5⟩ := hz5
    have q10 := li_0
    refine zok_bind (t_Sets_anyCanBe N hN (zpI (zmg [11,13] z5 s0) 6 (0 : Int32)) s2 (IS.pI 6 (0 : Int32) (IS.mg [11,13] h_z5 h_s0) (show (0 : Int) ≤ ((0 : Int32)).toInt ∧ ((0 : Int32)).toInt ≤ 1 from ⟨by omega, by omega⟩)) (show (0 : Int) ≤ ((0 : Int32)).toInt ∧ ((0 : Int32)).toInt ≤ 0 from ⟨by omega, by omega⟩) h_s2) (fun z7 hz7 => ?_)
    have h_z7 := hz7
    refine zok_ite (fun c11 => ?_) (fun c11 => ?_)
    · have q12 : (z7).toInt = ((0 : Int32)).toInt := teq c11
      exact t_Sets_seek_b45 N hN kh9 m9 _ _ _ _ _ gs0 hkh9 (IS.pI 6 (0 : Int32) (IS.mg [11,13] h_z5 h_s0) (show (0 : Int) ≤ ((0 : Int32)).toInt ∧ ((0 : Int32)).toInt ≤ 1 from ⟨by omega, by omega⟩)) h_s1 h_s2 (show (0 : Int) ≤ (v3).toInt ∧ (v3).toInt ≤ 20 from ⟨by omega, by omega⟩) (show (0 : Int) ≤ (v4).toInt ∧ (v4).toInt ≤ 99 from ⟨by omega, by omega⟩) (Fr.pI (Fr.mg (Fr.tr fr_z5 g_s0 rfl rfl) g_s0) rfl) (show 101 - (v4).toInt ≤ m9 from by omega)
    · have q13 : (z7).toInt ≠ ((0 : Int32)).toInt := tneq c11
      refine zok_bind (t_Sets_choose N hN 14 (zpI (zmg [11,13] z5 s0) 6 (0 : Int32)) s2 (0 : Int32) (0 : Int32) (IS.pI 6 (0 : Int32) (IS.mg [11,13] h_z5 h_s0) (show (0 : Int) ≤ ((0 : Int32)).toInt ∧ ((0 : Int32)).toInt ≤ 1 from ⟨by omega, by omega⟩)) (show (0 : Int) ≤ ((0 : Int32)).toInt ∧ ((0 : Int32)).toInt ≤ 0 from ⟨by omega, by omega⟩) h_s2 (show (0 : Int) ≤ ((0 : Int32)).toInt ∧ ((0 : Int32)).toInt ≤ 0 from ⟨by omega, by omega⟩) (show (0 : Int) ≤ ((0 : Int32)).toInt ∧ ((0 : Int32)).toInt ≤ 0 from ⟨by omega, by omega⟩)) (fun z10 hz10 => ?_)
      obtain ⟨h_z10, fr_z10⟩ := hz10
      exact t_Sets_seek_b45 N hN kh9 m9 _ _ _ _ _ gs0 hkh9 (IS.mg [8] h_z10 (IS.pI 6 (0 : Int32) (IS.mg [11,13] h_z5 h_s0) (show (0 : Int) ≤ ((0 : Int32)).toInt ∧ ((0 : Int32)).toInt ≤ 1 from ⟨by omega, by omega⟩))) h_s1 h_s2 (show (0 : Int) ≤ (v3).toInt ∧ (v3).toInt ≤ 20 from ⟨by omega, by omega⟩) (show (0 : Int) ≤ (v4).toInt ∧ (v4).toInt ≤ 99 from ⟨by omega, by omega⟩) (Fr.mg (Fr.tr fr_z10 (Fr.pI (Fr.mg (Fr.tr fr_z5 g_s0 rfl rfl) g_s0) rfl) rfl rfl) (Fr.pI (Fr.mg (Fr.tr fr_z5 g_s0 rfl rfl) g_s0) rfl)) (show 101 - (v4).toInt ≤ m9 from by omega)
theorem t_Sets_seek_h9 (N : Nat) (hN : 50000000 ≤ N) (s1 : zSt) (s2 : zSt) (v3 : Int32) (gs0 : zSt) (h_s1 : I_Valley s1) (h_s2 : I_Bounds s2) (h_v3 : (0 : Int) ≤ (v3).toInt ∧ (v3).toInt ≤ 20) : ∀ (n : Nat) (s0 : zSt) (v4 : Int32), I_Sets s0 → (0 : Int) ≤ (v4).toInt ∧ (v4).toInt ≤ 100 → Fr [0, 1, 2, 3, 4, 5, 6, 7] [8, 9, 10, 11, 12, 13] s0 gs0 → 101 - (v4).toInt ≤ (n : Int) → zok (Sets_seek_h9 N s1 s2 v3 n s0 v4) (fun z => I_Sets z ∧ Fr [0, 1, 2, 3, 4, 5, 6, 7] [8, 9, 10, 11, 12, 13] z gs0)
  | 0, s0, v4, h_s0, h_v4, g_s0, hm => absurd hm (by omega)
  | n + 1, s0, v4, h_s0, h_v4, g_s0, hm => by
    rw [Sets_seek_h9_s]
    exact t_Sets_seek_b9 N hN (Sets_seek_h9 N s1 s2 v3 n) ((n + 1 : Nat) : Int) s0 s1 s2 v3 v4 gs0 (fun s0 v4 h_s0 h_v4 g_s0 q => t_Sets_seek_h9 N hN  s1 s2 v3 gs0  h_s1 h_s2 h_v3   n s0 v4 h_s0 h_v4 g_s0 (by omega)) h_s0 h_s1 h_s2 h_v3 h_v4 g_s0 hm
theorem t_Sets_seek_b0 (N : Nat) (hN : 50000000 ≤ N) (s0 : zSt) (s1 : zSt) (s2 : zSt) (v3 : Int32) (gs0 : zSt) (h_s0 : I_Sets s0) (h_s1 : I_Valley s1) (h_s2 : I_Bounds s2) (h_v3 : (0 : Int) ≤ (v3).toInt ∧ (v3).toInt ≤ 20) (g_s0 : Fr [0, 1, 2, 3, 4, 5, 6, 7] [8, 9, 10, 11, 12, 13] s0 gs0) : zok (Sets_seek_b0 N s0 s1 s2 v3) (fun z => I_Sets z ∧ Fr [0, 1, 2, 3, 4, 5, 6, 7] [8, 9, 10, 11, 12, 13] z gs0) := by
  rw [Sets_seek_b0]
  refine zok_bind (t_Sets_begin N hN s0 s1 s2 h_s0 h_s1 h_s2) (fun z1 hz1 => ?_)
  obtain ⟨h_z1, fr_z1⟩ := hz1
  have q1 := li_0
  exact t_Sets_seek_h9 N hN  _ _ _ gs0  h_s1 h_s2 (show (0 : Int) ≤ (v3).toInt ∧ (v3).toInt ≤ 20 from ⟨by omega, by omega⟩)  N _ _ (IS.mg [10,12] h_z1 h_s0) (show (0 : Int) ≤ ((0 : Int32)).toInt ∧ ((0 : Int32)).toInt ≤ 100 from ⟨by omega, by omega⟩) (Fr.mg (Fr.tr fr_z1 g_s0 rfl rfl) g_s0) (show 101 - ((0 : Int32)).toInt ≤ (N : Int) from by omega)
theorem t_Sets_seek (N : Nat) (hN : 50000000 ≤ N) (s0 : zSt) (s1 : zSt) (s2 : zSt) (v3 : Int32) (h_s0 : I_Sets s0) (h_s1 : I_Valley s1) (h_s2 : I_Bounds s2) (h_v3 : (0 : Int) ≤ (v3).toInt ∧ (v3).toInt ≤ 20) : zok (Sets_seek N s0 s1 s2 v3) (fun z => I_Sets z ∧ Fr [0, 1, 2, 3, 4, 5, 6, 7] [8, 9, 10, 11, 12, 13] z s0) :=
  t_Sets_seek_b0 N hN s0 s1 s2 v3 s0 h_s0 h_s1 h_s2 h_v3 ⟨fun _ _ => rfl, fun _ _ => rfl⟩
theorem t_Valley_hasBell_b0 (N : Nat) (hN : 50000000 ≤ N) (s0 : zSt) (v1 : Int32) (h_s0 : I_Valley s0) : zok (Valley_hasBell_b0 N s0 v1) (fun z => ((0 : Int) ≤ (z).toInt ∧ (z).toInt ≤ 1)) := by
  rw [Valley_hasBell_b0]
  rcases u_CH_within N v1 (0 : Int32) ((zI s0 3) - (1 : Int32))  with w1 | ⟨w1, w1_0, w1_1⟩ <;> rw [w1, zbs]
  · refine zok_cb (by decide) ?_
    have q9 := li_0
    exact zok_some (show (0 : Int) ≤ ((0 : Int32)).toInt ∧ ((0 : Int32)).toInt ≤ 1 from ⟨by omega, by omega⟩)
  · have q2 := li_0
    have q3 := tr v1
    have q4 : ((0 : Int32)).toInt ≤ (v1).toInt := w1_0
    have q5 : (0 : Int) ≤ ((zI s0 3)).toInt ∧ ((zI s0 3)).toInt ≤ 11 := (h_s0).1 3
    have q6 := li_1
    have q7 := tsub (zI s0 3) (1 : Int32) (by omega) (by omega)
    have q8 : (v1).toInt ≤ (((zI s0 3) - (1 : Int32))).toInt := w1_1
    refine zok_cb (by decide) ?_
    exact zok_some (show (0 : Int) ≤ ((1 : Int32)).toInt ∧ ((1 : Int32)).toInt ≤ 1 from ⟨by omega, by omega⟩)
theorem t_Valley_hasBell (N : Nat) (hN : 50000000 ≤ N) (s0 : zSt) (v1 : Int32) (h_s0 : I_Valley s0) : zok (Valley_hasBell N s0 v1) (fun z => ((0 : Int) ≤ (z).toInt ∧ (z).toInt ≤ 1)) :=
  t_Valley_hasBell_b0 N hN s0 v1  h_s0 
theorem t_Valley_hasEar_b0 (N : Nat) (hN : 50000000 ≤ N) (s0 : zSt) (v1 : Int32) (h_s0 : I_Valley s0) : zok (Valley_hasEar_b0 N s0 v1) (fun z => ((0 : Int) ≤ (z).toInt ∧ (z).toInt ≤ 1)) := by
  rw [Valley_hasEar_b0]
  rcases u_CH_within N v1 (0 : Int32) ((zI s0 12) - (1 : Int32))  with w1 | ⟨w1, w1_0, w1_1⟩ <;> rw [w1, zbs]
  · refine zok_cb (by decide) ?_
    have q9 := li_0
    exact zok_some (show (0 : Int) ≤ ((0 : Int32)).toInt ∧ ((0 : Int32)).toInt ≤ 1 from ⟨by omega, by omega⟩)
  · have q2 := li_0
    have q3 := tr v1
    have q4 : ((0 : Int32)).toInt ≤ (v1).toInt := w1_0
    have q5 : (0 : Int) ≤ ((zI s0 12)).toInt ∧ ((zI s0 12)).toInt ≤ 4 := (h_s0).1 12
    have q6 := li_1
    have q7 := tsub (zI s0 12) (1 : Int32) (by omega) (by omega)
    have q8 : (v1).toInt ≤ (((zI s0 12) - (1 : Int32))).toInt := w1_1
    refine zok_cb (by decide) ?_
    exact zok_some (show (0 : Int) ≤ ((1 : Int32)).toInt ∧ ((1 : Int32)).toInt ≤ 1 from ⟨by omega, by omega⟩)
