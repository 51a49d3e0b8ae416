theorem fill_ok {N n0 : Nat} {v : Int32} (hn : n0 < 1000) : ∀ (k i : Nat) (f : Nat → Int32), i ≤ n0 → n0 - i < k → Arrays_fill_h5 N n0 v (Int32.ofNat n0) k f (nI i) = some (fun j => if i ≤ j ∧ j < n0 then v else f j) := by
  intro k
  induction k with
  | zero => intro i f _ h; exact absurd h (by omega)
  | succ k ih =>
    intro i f hi hk
    rw [Arrays_fill_h5_s]
    unfold Arrays_fill_b5
    by_cases e : i = n0
    · subst e
      rw [if_pos (show Int32.ofNat i ≤ nI i from (nI_leI (by omega) (by omega)).mpr (Nat.le_refl i))]
      congr 1
      funext j
      rw [if_neg (by omega)]
    · rw [if_neg (show ¬ Int32.ofNat n0 ≤ nI i from fun q => absurd ((nI_leI (by omega) (by omega)).mp q) (by omega)), zck_in (vp_in_nI (by omega) (by omega)), nI_clamp (by omega), nI_1, ih (i + 1) _ (by omega) (by omega)]
      congr 1
      funext j
      unfold upd
      by_cases a : j = i
      · subst a; rw [if_neg (by omega), if_pos rfl, if_pos (by omega)]
      · by_cases b : i ≤ j ∧ j < n0
        · rw [if_pos b, if_pos (by omega)]
        · rw [if_neg b, if_neg (by omega), if_neg a]
theorem Arrays_fill_eq {N n0 : Nat} {f : Nat → Int32} {v : Int32} (hn : n0 < 1000) (hN : n0 < N) : Arrays_fill N n0 f v = some (fun j => if j < n0 then v else f j) := by
  unfold Arrays_fill Arrays_fill_b0
  rw [show (0 : Int32) = nI 0 from rfl, fill_ok hn N 0 f (by omega) (by omega)]
  simp only [Nat.zero_le, true_and]
theorem t_Arrays_fill (N : Nat) (hN : 50000000 ≤ N) (n0 : Nat) (f0 : Nat → Int32) (v1 : Int32) (h_n0 : n0 ≤ 64) (h_v1 : (0 : Int) ≤ (v1).toInt ∧ (v1).toInt ≤ 0) : zok (Arrays_fill N n0 f0 v1) (fun z => (∀ a b : Int, (∀ i, a ≤ (f0 i).toInt ∧ (f0 i).toInt ≤ b) → a ≤ v1.toInt ∧ v1.toInt ≤ b → ∀ i, a ≤ (z i).toInt ∧ (z i).toInt ≤ b)) := by
  refine zok_eq (Arrays_fill_eq (by omega) (by omega)) ?_
  intro a b h1 h2 i
  show a ≤ (if i < n0 then v1 else f0 i).toInt ∧ (if i < n0 then v1 else f0 i).toInt ≤ b
  by_cases q : i < n0
  · rw [if_pos q]; exact h2
  · rw [if_neg q]; exact h1 i
theorem t_Entries_isSound_b0 (N : Nat) (hN : 50000000 ≤ N) (s0 : zSt) (v1 : Int32) (h_s0 : I_Entries s0) (h_s0_0 : (1 : Int) ≤ (zI s0 0).toInt ∧ (zI s0 0).toInt ≤ 40) (h_v1 : (0 : Int) ≤ (v1).toInt ∧ (v1).toInt ≤ 39) : zok (Entries_isSound_b0 N s0 v1) (fun z => ((0 : Int) ≤ (z).toInt ∧ (z).toInt ≤ 1)) := by
  rw [Entries_isSound_b0]
  refine zok_ck (show vp_in v1 40 from vin (by omega) (by omega)) ?_
  have q2 : (-1 : Int) ≤ (((zA s0 2) (Int32.toNatClampNeg v1))).toInt ∧ (((zA s0 2) (Int32.toNatClampNeg v1))).toInt ≤ 3 := (h_s0).2 2 _
  have q3 := li_m1
  refine zok_ite (fun c1 => ?_) (fun c1 => ?_)
  · have q4 : (((zA s0 2) (Int32.toNatClampNeg v1))).toInt = (((-1) : Int32)).toInt := teq c1
    have q5 := li_0
    exact zok_some (show (0 : Int) ≤ ((0 : Int32)).toInt ∧ ((0 : Int32)).toInt ≤ 1 from ⟨by omega, by omega⟩)
  · have q6 : (((zA s0 2) (Int32.toNatClampNeg v1))).toInt ≠ (((-1) : Int32)).toInt := tneq c1
    have q7 := li_1
    exact zok_some (show (0 : Int) ≤ ((1 : Int32)).toInt ∧ ((1 : Int32)).toInt ≤ 1 from ⟨by omega, by omega⟩)
theorem t_Entries_isSound (N : Nat) (hN : 50000000 ≤ N) (s0 : zSt) (v1 : Int32) (h_s0 : I_Entries s0) (h_s0_0 : (1 : Int) ≤ (zI s0 0).toInt ∧ (zI s0 0).toInt ≤ 40) (h_v1 : (0 : Int) ≤ (v1).toInt ∧ (v1).toInt ≤ 39) : zok (Entries_isSound N s0 v1) (fun z => ((0 : Int) ≤ (z).toInt ∧ (z).toInt ≤ 1)) :=
  t_Entries_isSound_b0 N hN s0 v1  h_s0 h_s0_0 h_v1 
theorem t_Entries_counts_b30 (N : Nat) (hN : 50000000 ≤ N) (s0 : zSt) (h_s0 : I_Entries s0) (h_s0_0 : (1 : Int) ≤ (zI s0 0).toInt ∧ (zI s0 0).toInt ≤ 40) : zok (Entries_counts_b30 N s0) (fun z => ((0 : Int) ≤ (z).toInt ∧ (z).toInt ≤ 1)) := by
  rw [Entries_counts_b30]
  have q1 := li_1
  exact zok_some (show (0 : Int) ≤ ((1 : Int32)).toInt ∧ ((1 : Int32)).toInt ≤ 1 from ⟨by omega, by omega⟩)
theorem t_Entries_counts_b0 (N : Nat) (hN : 50000000 ≤ N) (s0 : zSt) (v1 : Int32) (v2 : Int32) (h_s0 : I_Entries s0) (h_s0_0 : (1 : Int) ≤ (zI s0 0).toInt ∧ (zI s0 0).toInt ≤ 40) (h_v1 : (0 : Int) ≤ (v1).toInt ∧ (v1).toInt ≤ 39) : zok (Entries_counts_b0 N s0 v1 v2) (fun z => ((0 : Int) ≤ (z).toInt ∧ (z).toInt ≤ 1)) := by
  rw [Entries_counts_b0]
  refine zok_ck (show vp_in v1 40 from vin (by omega) (by omega)) ?_
  have q2 := tr v2
  have q3 := tr ((zA s0 6) (Int32.toNatClampNeg v1))
  refine zok_ite (fun c1 => ?_) (fun c1 => ?_)
  · have q4 : (v2).toInt < (((zA s0 6) (Int32.toNatClampNeg v1))).toInt := tlt c1
    have q5 := li_0
    exact zok_some (show (0 : Int) ≤ ((0 : Int32)).toInt ∧ ((0 : Int32)).toInt ≤ 1 from ⟨by omega, by omega⟩)
  · have q6 : (v2).toInt ≥ (((zA s0 6) (Int32.toNatClampNeg v1))).toInt := tnlt c1
    refine zok_ck (show vp_in v1 40 from vin (by omega) (by omega)) ?_
    have q8 := tr ((zA s0 7) (Int32.toNatClampNeg v1))
    have q9 := li_m1
    refine zok_ite (fun c7 => ?_) (fun c7 => ?_)
    · have q10 : (((zA s0 7) (Int32.toNatClampNeg v1))).toInt = (((-1) : Int32)).toInt := teq c7
      have q11 : (0 : Int) ≤ ((zI s0 0)).toInt ∧ ((zI s0 0)).toInt ≤ 40 := (h_s0).1 0
      exact t_Entries_counts_b30 N hN  _   h_s0 (show (1 : Int) ≤ ((zI s0 0)).toInt ∧ ((zI s0 0)).toInt ≤ 40 from ⟨by omega, by omega⟩) 
    · have q12 : (((zA s0 7) (Int32.toNatClampNeg v1))).toInt ≠ (((-1) : Int32)).toInt := tneq c7
      refine zok_ck (show vp_in v1 40 from vin (by omega) (by omega)) ?_
      refine zok_ite (fun c13 => ?_) (fun c13 => ?_)
      · have q14 : (((zA s0 7) (Int32.toNatClampNeg v1))).toInt ≤ (v2).toInt := tle c13
        have q15 := li_0
        exact zok_some (show (0 : Int) ≤ ((0 : Int32)).toInt ∧ ((0 : Int32)).toInt ≤ 1 from ⟨by omega, by omega⟩)
      · have q16 : (((zA s0 7) (Int32.toNatClampNeg v1))).toInt > (v2).toInt := tnle c13
        have q17 : (0 : Int) ≤ ((zI s0 0)).toInt ∧ ((zI s0 0)).toInt ≤ 40 := (h_s0).1 0
        exact t_Entries_counts_b30 N hN  _   h_s0 (show (1 : Int) ≤ ((zI s0 0)).toInt ∧ ((zI s0 0)).toInt ≤ 40 from ⟨by omega, by omega⟩) 
theorem t_Entries_counts (N : Nat) (hN : 50000000 ≤ N) (s0 : zSt) (v1 : Int32) (v2 : Int32) (h_s0 : I_Entries s0) (h_s0_0 : (1 : Int) ≤ (zI s0 0).toInt ∧ (zI s0 0).toInt ≤ 40) (h_v1 : (0 : Int) ≤ (v1).toInt ∧ (v1).toInt ≤ 39) : zok (Entries_counts N s0 v1 v2) (fun z => ((0 : Int) ≤ (z).toInt ∧ (z).toInt ≤ 1)) :=
  t_Entries_counts_b0 N hN s0 v1 v2  h_s0 h_s0_0 h_v1 
theorem t_Bounds_has_b0 (N : Nat) (hN : 50000000 ≤ N) (s0 : zSt) (v1 : Int32) (v2 : Int32) (h_s0 : I_Bounds s0) (h_v1 : (0 : Int) ≤ (v1).toInt ∧ (v1).toInt ≤ 3) (h_v2 : (0 : Int) ≤ (v2).toInt ∧ (v2).toInt ≤ 11) : zok (Bounds_has_b0 N s0 v1 v2) (fun z => ((0 : Int) ≤ (z).toInt ∧ (z).toInt ≤ 1)) := by
  rw [Bounds_has_b0]
  refine zok_ck (show vp_in v1 4 from vin (by omega) (by omega)) ?_
  refine zok_ite (fun c1 => ?_) (fun c1 => ?_)
  · have q2 := li_1
    exact zok_some (show (0 : Int) ≤ ((1 : Int32)).toInt ∧ ((1 : Int32)).toInt ≤ 1 from ⟨by omega, by omega⟩)
  · have q3 := li_0
    exact zok_some (show (0 : Int) ≤ ((0 : Int32)).toInt ∧ ((0 : Int32)).toInt ≤ 1 from ⟨by omega, by omega⟩)
theorem t_Bounds_has (N : Nat) (hN : 50000000 ≤ N) (s0 : zSt) (v1 : Int32) (v2 : Int32) (h_s0 : I_Bounds s0) (h_v1 : (0 : Int) ≤ (v1).toInt ∧ (v1).toInt ≤ 3) (h_v2 : (0 : Int) ≤ (v2).toInt ∧ (v2).toInt ≤ 11) : zok (Bounds_has N s0 v1 v2) (fun z => ((0 : Int) ≤ (z).toInt ∧ (z).toInt ≤ 1)) :=
  t_Bounds_has_b0 N hN s0 v1 v2  h_s0 h_v1 h_v2 
theorem t_Math_max_b0 (N : Nat) (hN : 50000000 ≤ N) (v0 : Int32) (v1 : Int32) : zok (Math_max_b0 N v0 v1) (fun z => True) := by
  rw [Math_max_b0]
  have q2 := tr v0
  have q3 := tr v1
  refine zok_ite (fun c1 => ?_) (fun c1 => ?_)
  · have q4 : (v0).toInt < (v1).toInt := tlt c1
    exact zok_some trivial
  · have q5 : (v0).toInt ≥ (v1).toInt := tnlt c1
    exact zok_some trivial
theorem t_Math_max (N : Nat) (hN : 50000000 ≤ N) (v0 : Int32) (v1 : Int32) : zok (Math_max N v0 v1) (fun z => True) :=
  t_Math_max_b0 N hN v0 v1   
theorem t_Math_min_b0 (N : Nat) (hN : 50000000 ≤ N) (v0 : Int32) (v1 : Int32) : zok (Math_min_b0 N v0 v1) (fun z => True) := by
  rw [Math_min_b0]
  have q2 := tr v1
  have q3 := tr v0
  refine zok_ite (fun c1 => ?_) (fun c1 => ?_)
  · have q4 : (v1).toInt < (v0).toInt := tlt c1
    exact zok_some trivial
  · have q5 : (v1).toInt ≥ (v0).toInt := tnlt c1
    exact zok_some trivial
theorem t_Math_min (N : Nat) (hN : 50000000 ≤ N) (v0 : Int32) (v1 : Int32) : zok (Math_min N v0 v1) (fun z => True) :=
  t_Math_min_b0 N hN v0 v1   
theorem t_Bounds_narrow_b89 (N : Nat) (hN : 50000000 ≤ N) (s0 : zSt) (s1 : zSt) (v2 : Int32) (v3 : Int32) (v4 : Int32) (v5 : Int32) (gs0 : zSt) (h_s0 : I_Bounds s0) (h_s1 : I_Entries s1) (h_s1_0 : (1 : Int) ≤ (zI s1 0).toInt ∧ (zI s1 0).toInt ≤ 40) (h_v2 : (0 : Int) ≤ (v2).toInt ∧ (v2).toInt ≤ 39) (h_v3 : (0 : Int) ≤ (v3).toInt ∧ (v3).toInt ≤ 3) (h_v4 : (0 : Int) ≤ (v4).toInt ∧ (v4).toInt ≤ 11) (h_v5 : (0 : Int) ≤ (v5).toInt ∧ (v5).toInt ≤ 47) (hx0 : (0 : Int) ≤ (v5).toInt) (hx1 : (v5).toInt ≤ (47 : Int)) (hx2 : (0 : Int) ≤ (v3).toInt) (hx3 : (0 : Int) ≤ (v4).toInt) (hx4 : (v4).toInt ≤ (11 : Int)) (g_s0 : Fr [0, 2] [1, 3, 4, 5] s0 gs0) : zok (Bounds_narrow_b89 N s0 s1 v2 v3 v4 v5) (fun z => I_Bounds z ∧ Fr [0, 2] [1, 3, 4, 5] z gs0) := by
  rw [Bounds_narrow_b89]
  refine zok_ck (show vp_in v5 48 from vin (by omega) (by omega)) ?_
  refine zok_ck (show vp_in v2 40 from vin (by omega) (by omega)) ?_
  refine zok_bind (t_Math_max N hN ((zA s0 4) (Int32.toNatClampNeg v5)) ((zA s1 4) (Int32.toNatClampNeg v2)) ) (fun z3 hz3 => ?_)
  have h_z3 := hz3
  refine zok_ck (show vp_in v5 48 from vin (by omega) (by omega)) ?_
  refine zok_ck (show vp_in v5 48 from vin (by omega) (by omega)) ?_
  refine zok_ck (show vp_in v2 40 from vin (by omega) (by omega)) ?_
  refine zok_bind (t_Math_min N hN ((zA s0 5) (Int32.toNatClampNeg v5)) ((zA s1 5) (Int32.toNatClampNeg v2)) ) (fun z8 hz8 => ?_)
  have h_z8 := hz8
  refine zok_ck (show vp_in v5 48 from vin (by omega) (by omega)) ?_
  refine zok_ck (show vp_in v3 4 from vin (by omega) (by omega)) ?_
  refine zok_ck (show vp_in v3 4 from vin (by omega) (by omega)) ?_
  exact zok_some ⟨(IS.pI 0 ((zI s0 0) ||| ((1 : Int32) <<< (v4 &&& (31 : Int32)))) (IS.sA 1 (upd (zA s0 1) (Int32.toNatClampNeg v3) (((zA s0 1) (Int32.toNatClampNeg v3)) ||| ((1 : Int32) <<< (v4 &&& (31 : Int32))))) (IS.sA 5 (upd (zA s0 5) (Int32.toNatClampNeg v5) z8) (IS.sA 4 (upd (zA s0 4) (Int32.toNatClampNeg v5) z3) h_s0 (fun _ => tr _)) (fun _ => tr _)) (fun _ => tr _)) (tr _)), (Fr.pI (Fr.sA (Fr.sA (Fr.sA g_s0 rfl) rfl) rfl) rfl)⟩
theorem t_Bounds_narrow_b61 (N : Nat) (hN : 50000000 ≤ N) (s0 : zSt) (s1 : zSt) (v2 : Int32) (v3 : Int32) (v4 : Int32) (v5 : Int32) (gs0 : zSt) (h_s0 : I_Bounds s0) (h_s1 : I_Entries s1) (h_s1_0 : (1 : Int) ≤ (zI s1 0).toInt ∧ (zI s1 0).toInt ≤ 40) (h_v2 : (0 : Int) ≤ (v2).toInt ∧ (v2).toInt ≤ 39) (h_v3 : (0 : Int) ≤ (v3).toInt ∧ (v3).toInt ≤ 3) (h_v4 : (0 : Int) ≤ (v4).toInt ∧ (v4).toInt ≤ 11) (h_v5 : (0 : Int) ≤ (v5).toInt ∧ (v5).toInt ≤ 47) (hx0 : (0 : Int) ≤ (v5).toInt) (hx1 : (v5).toInt ≤ (47 : Int)) (hx2 : (0 : Int) ≤ (v3).toInt) (hx3 : (0 : Int) ≤ (v4).toInt) (hx4 : (v4).toInt ≤ (11 : Int)) (g_s0 : Fr [0, 2] [1, 3, 4, 5] s0 gs0) : zok (Bounds_narrow_b61 N s0 s1 v2 v3 v4 v5) (fun z => I_Bounds z ∧ Fr [0, 2] [1, 3, 4, 5] z gs0) := by
  rw [Bounds_narrow_b61]
  refine zok_bind (t_Bounds_has N hN s0 v3 v4 h_s0 (show (0 : Int) ≤ (v3).toInt ∧ (v3).toInt ≤ 3 from ⟨by omega, by omega⟩) (show (0 : Int) ≤ (v4).toInt ∧ (v4).toInt ≤ 11 from ⟨by omega, by omega⟩)) (fun z1 hz1 => ?_)
  have h_z1 := hz1
  have q2 := li_0
  refine zok_ite (fun c1 => ?_) (fun c1 => ?_)
  · have q3 : (z1).toInt = ((0 : Int32)).toInt := teq c1
    refine zok_ck (show vp_in v5 48 from vin (by omega) (by omega)) ?_
    refine zok_ck (show vp_in v5 48 from vin (by omega) (by omega)) ?_
    have q4 : (0 : Int) ≤ ((zI s1 0)).toInt ∧ ((zI s1 0)).toInt ≤ 40 := (h_s1).1 0
    have q5 := li_47
    have q6 := li_11
    exact t_Bounds_narrow_b89 N hN  _ _ _ _ _ _ gs0  (IS.sA 5 (upd (zA s0 5) (Int32.toNatClampNeg v5) (999 : Int32)) (IS.sA 4 (upd (zA s0 4) (Int32.toNatClampNeg v5) (0 : Int32)) h_s0 (fun _ => tr _)) (fun _ => tr _)) h_s1 (show (1 : Int) ≤ ((zI s1 0)).toInt ∧ ((zI s1 0)).toInt ≤ 40 from ⟨by omega, by omega⟩) (show (0 : Int) ≤ (v2).toInt ∧ (v2).toInt ≤ 39 from ⟨by omega, by omega⟩) (show (0 : Int) ≤ (v3).toInt ∧ (v3).toInt ≤ 3 from ⟨by omega, by omega⟩) (show (0 : Int) ≤ (v4).toInt ∧ (v4).toInt ≤ 11 from ⟨by omega, by omega⟩) (show (0 : Int) ≤ (v5).toInt ∧ (v5).toInt ≤ 47 from ⟨by omega, by omega⟩) (show (0 : Int) ≤ (v5).toInt from by omega) (show (v5).toInt ≤ (47 : Int) from by omega) (show (0 : Int) ≤ (v3).toInt from by omega) (show (0 : Int) ≤ (v4).toInt from by omega) (show (v4).toInt ≤ (11 : Int) from by omega) (Fr.sA (Fr.sA g_s0 rfl) rfl) 
  · have q7 : (z1).toInt ≠ ((0 : Int32)).toInt := tneq c1
    have q8 : (0 : Int) ≤ ((zI s1 0)).toInt ∧ ((zI s1 0)).toInt ≤ 40 := (h_s1).1 0
    have q9 := li_47
    have q10 := li_11
    exact t_Bounds_narrow_b89 N hN  _ _ _ _ _ _ gs0  h_s0 h_s1 (show (1 : Int) ≤ ((zI s1 0)).toInt ∧ ((zI s1 0)).toInt ≤ 40 from ⟨by omega, by omega⟩) (show (0 : Int) ≤ (v2).toInt ∧ (v2).toInt ≤ 39 from ⟨by omega, by omega⟩) (show (0 : Int) ≤ (v3).toInt ∧ (v3).toInt ≤ 3 from ⟨by omega, by omega⟩) (show (0 : Int) ≤ (v4).toInt ∧ (v4).toInt ≤ 11 from ⟨by omega, by omega⟩) (show (0 : Int) ≤ (v5).toInt ∧ (v5).toInt ≤ 47 from ⟨by omega, by omega⟩) (show (0 : Int) ≤ (v5).toInt from by omega) (show (v5).toInt ≤ (47 : Int) from by omega) (show (0 : Int) ≤ (v3).toInt from by omega) (show (0 : Int) ≤ (v4).toInt from by omega) (show (v4).toInt ≤ (11 : Int) from by omega) g_s0 
theorem t_Bounds_narrow_b0 (N : Nat) (hN : 50000000 ≤ N) (s0 : zSt) (s1 : zSt) (v2 : Int32) (gs0 : zSt) (h_s0 : I_Bounds s0) (h_s1 : I_Entries s1) (h_s1_0 : (1 : Int) ≤ (zI s1 0).toInt ∧ (zI s1 0).toInt ≤ 40) (h_v2 : (0 : Int) ≤ (v2).toInt ∧ (v2).toInt ≤ 39) (hx0 : (0 : Int) ≤ (((zA s1 2) (Int32.toNatClampNeg v2))).toInt) (hx1 : (0 : Int) ≤ (((zA s1 3) (Int32.toNatClampNeg v2))).toInt) (hx2 : (((zA s1 3) (Int32.toNatClampNeg v2))).toInt ≤ (11 : Int)) (g_s0 : Fr [0, 2] [1, 3, 4, 5] s0 gs0) : zok (Bounds_narrow_b0 N s0 s1 v2) (fun z => I_Bounds z ∧ Fr [0, 2] [1, 3, 4, 5] z gs0) := by
  rw [Bounds_narrow_b0]
  refine zok_ck (show vp_in v2 40 from vin (by omega) (by omega)) ?_
  refine zok_ck (show vp_in v2 40 from vin (by omega) (by omega)) ?_
  have q1 : (-1 : Int) ≤ (((zA s1 2) (Int32.toNatClampNeg v2))).toInt ∧ (((zA s1 2) (Int32.toNatClampNeg v2))).toInt ≤ 3 := (h_s1).2 2 _
  refine zok_ck (show vp_in ((zA s1 2) (Int32.toNatClampNeg v2)) 4 from vin (by omega) (by omega)) ?_
  have q3 := tr ((zA s0 1) (Int32.toNatClampNeg ((zA s1 2) (Int32.toNatClampNeg v2))))
  have q4 := li_0
  refine zok_ite (fun c2 => ?_) (fun c2 => ?_)
  · have q5 : (((zA s0 1) (Int32.toNatClampNeg ((zA s1 2) (Int32.toNatClampNeg v2))))).toInt = ((0 : Int32)).toInt := teq c2
    have q7 := li_4
    have q8 : (0 : Int) ≤ ((zI s0 2)).toInt ∧ ((zI s0 2)).toInt ≤ 4 := (h_s0).1 2
    refine zok_ite (fun c6 => ?_) (fun c6 => ?_)
    · have q9 : ((4 : Int32)).toInt ≤ ((zI s0 2)).toInt := tle c6
      have q10 : (0 : Int) ≤ ((zI s1 0)).toInt ∧ ((zI s1 0)).toInt ≤ 40 := (h_s1).1 0
      have q11 := tr ((zA s1 3) (Int32.toNatClampNeg v2))
      have q12 : ((((zA s1 2) (Int32.toNatClampNeg v2)) * (12 : Int32))).toInt = (((zA s1 2) (Int32.toNatClampNeg v2))).toInt * 12 := tmulr ((zA s1 2) (Int32.toNatClampNeg v2)) (12 : Int32) 12 (by decide) (by omega) (by omega)
      have q13 := tadd (((zA s1 2) (Int32.toNatClampNeg v2)) * (12 : Int32)) ((zA s1 3) (Int32.toNatClampNeg v2)) (by omega) (by omega)
      have q14 := li_47
      have q15 := li_11
      exact t_Bounds_narrow_b61 N hN  _ _ _ _ _ _ gs0  h_s0 h_s1 (show (1 : Int) ≤ ((zI s1 0)).toInt ∧ ((zI s1 0)).toInt ≤ 40 from ⟨by omega, by omega⟩) (show (0 : Int) ≤ (v2).toInt ∧ (v2).toInt ≤ 39 from ⟨by omega, by omega⟩) (show (0 : Int) ≤ (((zA s1 2) (Int32.toNatClampNeg v2))).toInt ∧ (((zA s1 2) (Int32.toNatClampNeg v2))).toInt ≤ 3 from ⟨by omega, by omega⟩) (show (0 : Int) ≤ (((zA s1 3) (Int32.toNatClampNeg v2))).toInt ∧ (((zA s1 3) (Int32.toNatClampNeg v2))).toInt ≤ 11 from ⟨by omega, by omega⟩) (show (0 : Int) ≤ (((((zA s1 2) (Int32.toNatClampNeg v2)) * (12 : Int32)) + ((zA s1 3) (Int32.toNatClampNeg v2)))).toInt ∧ (((((zA s1 2) (Int32.toNatClampNeg v2)) * (12 : Int32)) + ((zA s1 3) (Int32.toNatClampNeg v2)))).toInt ≤ 47 from ⟨by omega, by omega⟩) (show (0 : Int) ≤ (((((zA s1 2) (Int32.toNatClampNeg v2)) * (12 : Int32)) + ((zA s1 3) (Int32.toNatClampNeg v2)))).toInt from by omega) (show (((((zA s1 2) (Int32.toNatClampNeg v2)) * (12 : Int32)) + ((zA s1 3) (Int32.toNatClampNeg v2)))).toInt ≤ (47 : Int) from by omega) (show (0 : Int) ≤ (((zA s1 2) (Int32.toNatClampNeg v2))).toInt from by omega) (show (0 : Int) ≤ (((zA s1 3) (Int32.toNatClampNeg v2))).toInt from by omega) (show (((zA s1 3) (Int32.toNatClampNeg v2))).toInt ≤ (11 : Int) from by omega) g_s0 
    · have q16 : ((4 : Int32)).toInt > ((zI s0 2)).toInt := tnle c6
      refine zok_ck (show vp_in (zI s0 2) 4 from vin (by omega) (by omega)) ?_
      have q17 := li_1
      have q18 := tadd (zI s0 2) (1 : Int32) (by omega) (by omega)
      have q19 : (0 : Int) ≤ ((zI s1 0)).toInt ∧ ((zI s1 0)).toInt ≤ 40 := (h_s1).1 0
      have q20 := tr ((zA s1 3) (Int32.toNatClampNeg v2))
      have q21 : ((((zA s1 2) (Int32.toNatClampNeg v2)) * (12 : Int32))).toInt = (((zA s1 2) (Int32.toNatClampNeg v2))).toInt * 12 := tmulr ((zA s1 2) (Int32.toNatClampNeg v2)) (12 : Int32) 12 (by decide) (by omega) (by omega)
      have q22 := tadd (((zA s1 2) (Int32.toNatClampNeg v2)) * (12 : Int32)) ((zA s1 3) (Int32.toNatClampNeg v2)) (by omega) (by omega)
      have q23 := li_47
      have q24 := li_11
      exact t_Bounds_narrow_b61 N hN  _ _ _ _ _ _ gs0  (IS.pI 2 ((zI s0 2) + (1 : Int32)) (IS.sA 3 (upd (zA s0 3) (Int32.toNatClampNeg (zI s0 2)) ((zA s1 2) (Int32.toNatClampNeg v2))) h_s0 (show ∀ i, (0 : Int) ≤ ((upd (zA s0 3) (Int32.toNatClampNeg (zI s0 2)) ((zA s1 2) (Int32.toNatClampNeg v2))) i).toInt ∧ ((upd (zA s0 3) (Int32.toNatClampNeg (zI s0 2)) ((zA s1 2) (Int32.toNatClampNeg v2))) i).toInt ≤ 3 from (rgu (fun i => rgm ((h_s0).2 3 i) (by decide) (by decide)) ⟨by omega, by omega⟩))) (show (0 : Int) ≤ (((zI s0 2) + (1 : Int32))).toInt ∧ (((zI s0 2) + (1 : Int32))).toInt ≤ 4 from ⟨by omega, by omega⟩)) h_s1 (show (1 : Int) ≤ ((zI s1 0)).toInt ∧ ((zI s1 0)).toInt ≤ 40 from ⟨by omega, by omega⟩) (show (0 : Int) ≤ (v2).toInt ∧ (v2).toInt ≤ 39 from ⟨by omega, by omega⟩) (show (0 : Int) ≤ (((zA s1 2) (Int32.toNatClampNeg v2))).toInt ∧ (((zA s1 2) (Int32.toNatClampNeg v2))).toInt ≤ 3 from ⟨by omega, by omega⟩) (show (0 : Int) ≤ (((zA s1 3) (Int32.toNatClampNeg v2))).toInt ∧ (((zA s1 3) (Int32.toNatClampNeg v2))).toInt ≤ 11 from ⟨by omega, by omega⟩) (show (0 : Int) ≤ (((((zA s1 2) (Int32.toNatClampNeg v2)) * (12 : Int32)) + ((zA s1 3) (Int32.toNatClampNeg v2)))).toInt ∧ (((((zA s1 2) (Int32.toNatClampNeg v2)) * (12 : Int32)) + ((zA s1 3) (Int32.toNatClampNeg v2)))).toInt ≤ 47 from ⟨by omega, by omega⟩) (show (0 : Int) ≤ (((((zA s1 2) (Int32.toNatClampNeg v2)) * (12 : Int32)) + ((zA s1 3) (Int32.toNatClampNeg v2)))).toInt from by omega) (show (((((zA s1 2) (Int32.toNatClampNeg v2)) * (12 : Int32)) + ((zA s1 3) (Int32.toNatClampNeg v2)))).toInt ≤ (47 : Int) from by omega) (show (0 : Int) ≤ (((zA s1 2) (Int32.toNatClampNeg v2))).toInt from by omega) (show (0 : Int) ≤ (((zA s1 3) (Int32.toNatClampNeg v2))).toInt from by omega) (show (((zA s1 3) (Int32.toNatClampNeg v2))).toInt ≤ (11 : Int) from by omega) (Fr.pI (Fr.sA g_s0 rfl) rfl) 
  · have q25 : (((zA s0 1) (Int32.toNatClampNeg ((zA s1 2) (Int32.toNatClampNeg v2))))).toInt ≠ ((0 : Int32)).toInt := tneq c2
    have q26 : (0 : Int) ≤ ((zI s1 0)).toInt ∧ ((zI s1 0)).toInt ≤ 40 := (h_s1).1 0
    have q27 := tr ((zA s1 3) (Int32.toNatClampNeg v2))
    have q28 : ((((zA s1 2) (Int32.toNatClampNeg v2)) * (12 : Int32))).toInt = (((zA s1 2) (Int32.toNatClampNeg v2))).toInt * 12 := tmulr ((zA s1 2) (Int32.toNatClampNeg v2)) (12 : Int32) 12 (by decide) (by omega) (by omega)
    have q29 := tadd (((zA s1 2) (Int32.toNatClampNeg v2)) * (12 : Int32)) ((zA s1 3) (Int32.toNatClampNeg v2)) (by omega) (by omega)
    have q30 := li_47
    have q31 := li_11
    exact t_Bounds_narrow_b61 N hN  _ _ _ _ _ _ gs0  h_s0 h_s1 (show (1 : Int) ≤ ((zI s1 0)).toInt ∧ ((zI s1 0)).toInt ≤ 40 from ⟨by omega, by omega⟩) (show (0 : Int) ≤ (v2).toInt ∧ (v2).toInt ≤ 39 from ⟨by omega, by omega⟩) (show (0 : Int) ≤ (((zA s1 2) (Int32.toNatClampNeg v2))).toInt ∧ (((zA s1 2) (Int32.toNatClampNeg v2))).toInt ≤ 3 from ⟨by omega, by omega⟩) (show (0 : Int) ≤ (((zA s1 3) (Int32.toNatClampNeg v2))).toInt ∧ (((zA s1 3) (Int32.toNatClampNeg v2))).toInt ≤ 11 from ⟨by omega, by omega⟩) (show (0 : Int) ≤ (((((zA s1 2) (Int32.toNatClampNeg v2)) * (12 : Int32)) + ((zA s1 3) (Int32.toNatClampNeg v2)))).toInt ∧ (((((zA s1 2) (Int32.toNatClampNeg v2)) * (12 : Int32)) + ((zA s1 3) (Int32.toNatClampNeg v2)))).toInt ≤ 47 from ⟨by omega, by omega⟩) (show (0 : Int) ≤ (((((zA s1 2) (Int32.toNatClampNeg v2)) * (12 : Int32)) + ((zA s1 3) (Int32.toNatClampNeg v2)))).toInt from by omega) (show (((((zA s1 2) (Int32.toNatClampNeg v2)) * (12 : Int32)) + ((zA s1 3) (Int32.toNatClampNeg v2)))).toInt ≤ (47 : Int) from by omega) (show (0 : Int) ≤ (((zA s1 2) (Int32.toNatClampNeg v2))).toInt from by omega) (show (0 : Int) ≤ (((zA s1 3) (Int32.toNatClampNeg v2))).toInt from by omega) (show (((zA s1 3) (Int32.toNatClampNeg v2))).toInt ≤ (11 : Int) from by omega) g_s0 
theorem t_Bounds_narrow (N : Nat) (hN : 50000000 ≤ N) (s0 : zSt) (s1 : zSt) (v2 : Int32) (h_s0 : I_Bounds s0) (h_s1 : I_Entries s1) (h_s1_0 : (1 : Int) ≤ (zI s1 0).toInt ∧ (zI s1 0).toInt ≤ 40) (h_v2 : (0 : Int) ≤ (v2).toInt ∧ (v2).toInt ≤ 39) (hx0 : (0 : Int) ≤ (((zA s1 2) (Int32.toNatClampNeg v2))).toInt) (hx1 : (0 : Int) ≤ (((zA s1 3) (Int32.toNatClampNeg v2))).toInt) (hx2 : (((zA s1 3) (Int32.toNatClampNeg v2))).toInt ≤ (11 : Int)) : zok (Bounds_narrow N s0 s1 v2) (fun z => I_Bounds z ∧ Fr [0, 2] [1, 3, 4, 5] z s0) :=
  t_Bounds_narrow_b0 N hN s0 s1 v2 s0 h_s0 h_s1 h_s1_0 h_v2 hx0 hx1 hx2 ⟨fun _ _ => rfl, fun _ _ => rfl⟩
theorem t_Bounds_gather_b67 (N : Nat) (hN : 50000000 ≤ N) (kh21 : zSt → Int32 → Option (zSt)) (m21 : Int) (s0 : zSt) (s1 : zSt) (v2 : Int32) (v3 : Int32) (v4 : Int32) (gs0 : zSt) (hkh21 : ∀ (s0 : zSt) (v4 : Int32), I_Bounds s0 → (0 : Int) ≤ (v4).toInt ∧ (v4).toInt ≤ 40 → Fr [0, 2] [1, 3, 4, 5] s0 gs0 → 41 - (v4).toInt ≤ m21 - 1 → zok (kh21 s0 v4) (fun z => I_Bounds z ∧ Fr [0, 2] [1, 3, 4, 5] z gs0)) (h_s0 : I_Bounds s0) (h_s1 : I_Entries s1) (h_s1_0 : (1 : Int) ≤ (zI s1 0).toInt ∧ (zI s1 0).toInt ≤ 40) (h_v2 : (0 : Int) ≤ (v2).toInt ∧ (v2).toInt ≤ 95) (h_v4 : (0 : Int) ≤ (v4).toInt ∧ (v4).toInt ≤ 39) (hET : ET s1) (g_s0 : Fr [0, 2] [1, 3, 4, 5] s0 gs0) (hm21 : 41 - (v4).toInt ≤ m21) : zok (Bounds_gather_b67 N kh21 s0 s1 v2 v3 v4) (fun z => I_Bounds z ∧ Fr [0, 2] [1, 3, 4, 5] z gs0) := by
  rw [Bounds_gather_b67]
  have q1 := li_1
  have q2 := tadd v4 (1 : Int32) (by omega) (by omega)
  exact hkh21 _ _ h_s0 (show (0 : Int) ≤ ((v4 + (1 : Int32))).toInt ∧ ((v4 + (1 : Int32))).toInt ≤ 40 from ⟨by omega, by omega⟩) g_s0 (show 41 - ((v4 + (1 : Int32))).toInt ≤ m21 - 1 by omega)
theorem t_Bounds_gather_b21 (N : Nat) (hN : 50000000 ≤ N) (kh21 : zSt → Int32 → Option (zSt)) (m21 : Int) (s0 : zSt) (s1 : zSt) (v2 : Int32) (v3 : Int32) (v4 : Int32) (gs0 : zSt) (hkh21 : ∀ (s0 : zSt) (v4 : Int32), I_Bounds s0 → (0 : Int) ≤ (v4).toInt ∧ (v4).toInt ≤ 40 → Fr [0, 2] [1, 3, 4, 5] s0 gs0 → 41 - (v4).toInt ≤ m21 - 1 → zok (kh21 s0 v4) (fun z => I_Bounds z ∧ Fr [0, 2] [1, 3, 4, 5] z gs0)) (h_s0 : I_Bounds s0) (h_s1 : I_Entries s1) (h_v2 : (0 : Int) ≤ (v2).toInt ∧ (v2).toInt ≤ 95) (h_v4 : (0 : Int) ≤ (v4).toInt ∧ (v4).toInt ≤ 40) (hET : ET s1) (g_s0 : Fr [0, 2] [1, 3, 4, 5] s0 gs0) (hm21 : 41 - (v4).toInt ≤ m21) : zok (Bounds_gather_b21 N kh21 s0 s1 v2 v3 v4) (fun z => I_Bounds z ∧ Fr [0, 2] [1, 3, 4, 5] z gs0) := by
  rw [Bounds_gather_b21]
  have q2 : (0 : Int) ≤ ((zI s1 0)).toInt ∧ ((zI s1 0)).toInt ≤ 40 := (h_s1).1 0
  refine zok_ite (fun c1 => ?_) (fun c1 => ?_)
  · have q3 : ((zI s1 0)).toInt ≤ (v4).toInt := tle c1
    exact zok_some ⟨h_s0, g_s0⟩
  · have q4 : ((zI s1 0)).toInt > (v4).toInt := tnle c1
    have q6 : (-1 : Int) ≤ (((zA s1 2) (Int32.toNatClampNeg v4))).toInt ∧ (((zA s1 2) (Int32.toNatClampNeg v4))).toInt ≤ 3 := (h_s1).2 2 _
    rcases u_Entries_isSound N s1 v4 (show vp_in v4 40 from vin (by omega) (by omega)) (show (-1 : Int) ≤ (((zA s1 2) (Int32.toNatClampNeg v4))).toInt by omega) with w5 | ⟨w5, w5_0⟩ <;> rw [w5, zbs]
    · refine zok_t (by decide) ?_
      exact t_Bounds_gather_b67 N hN kh21 m21 _ _ _ _ _ gs0 hkh21 h_s0 h_s1 (show (1 : Int) ≤ ((zI s1 0)).toInt ∧ ((zI s1 0)).toInt ≤ 40 from ⟨by omega, by omega⟩) (show (0 : Int) ≤ (v2).toInt ∧ (v2).toInt ≤ 95 from ⟨by omega, by omega⟩) (show (0 : Int) ≤ (v4).toInt ∧ (v4).toInt ≤ 39 from ⟨by omega, by omega⟩) hET g_s0 (show 41 - (v4).toInt ≤ m21 from by omega)
    · have q7 := li_0
      have q8 : ((0 : Int32)).toInt ≤ (((zA s1 2) (Int32.toNatClampNeg v4))).toInt := w5_0
      refine zok_f (by decide) ?_
      refine zok_ck (show vp_in v4 40 from vin (by omega) (by omega)) ?_
      have q10 := tr ((zA s1 1) (Int32.toNatClampNeg v4))
      refine zok_ite (fun c9 => ?_) (fun c9 => ?_)
      · have q11 : (((zA s1 1) (Int32.toNatClampNeg v4))).toInt = (v2).toInt := teq c9
        refine zok_bind (t_Entries_counts N hN s1 v4 v3 h_s1 (show (1 : Int) ≤ ((zI s1 0)).toInt ∧ ((zI s1 0)).toInt ≤ 40 from ⟨by omega, by omega⟩) (show (0 : Int) ≤ (v4).toInt ∧ (v4).toInt ≤ 39 from ⟨by omega, by omega⟩)) (fun z7 hz7 => ?_)
        have h_z7 := hz7
        refine zok_ite (fun c12 => ?_) (fun c12 => ?_)
        · have q13 : (z7).toInt = ((0 : Int32)).toInt := teq c12
          exact t_Bounds_gather_b67 N hN kh21 m21 _ _ _ _ _ gs0 hkh21 h_s0 h_s1 (show (1 : Int) ≤ ((zI s1 0)).toInt ∧ ((zI s1 0)).toInt ≤ 40 from ⟨by omega, by omega⟩) (show (0 : Int) ≤ (v2).toInt ∧ (v2).toInt ≤ 95 from ⟨by omega, by omega⟩) (show (0 : Int) ≤ (v4).toInt ∧ (v4).toInt ≤ 39 from ⟨by omega, by omega⟩) hET g_s0 (show 41 - (v4).toInt ≤ m21 from by omega)
        · have q14 : (z7).toInt ≠ ((0 : Int32)).toInt := tneq c12
          have q15 := hET (Int32.toNatClampNeg v4)
          have q16 := tr ((zA s1 3) (Int32.toNatClampNeg v4))
          have q17 := li_11
          refine zok_bind (t_Bounds_narrow N hN s0 s1 v4 h_s0 h_s1 (show (1 : Int) ≤ ((zI s1 0)).toInt ∧ ((zI s1 0)).toInt ≤ 40 from ⟨by omega, by omega⟩) (show (0 : Int) ≤ (v4).toInt ∧ (v4).toInt ≤ 39 from ⟨by omega, by omega⟩) (show (0 : Int) ≤ (((zA s1 2) (Int32.toNatClampNeg v4))).toInt from by omega) (show (0 : Int) ≤ (((zA s1 3) (Int32.toNatClampNeg v4))).toInt from by omega) (show (((zA s1 3) (Int32.toNatClampNeg v4))).toInt ≤ (11 : Int) from by omega)) (fun z10 hz10 => ?_)
          obtain ⟨h_z10, fr_z10⟩ := hz10
          exact t_Bounds_gather_b67 N hN kh21 m21 _ _ _ _ _ gs0 hkh21 h_z10 h_s1 (show (1 : Int) ≤ ((zI s1 0)).toInt ∧ ((zI s1 0)).toInt ≤ 40 from ⟨by omega, by omega⟩) (show (0 : Int) ≤ (v2).toInt ∧ (v2).toInt ≤ 95 from ⟨by omega, by omega⟩) (show (0 : Int) ≤ (v4).toInt ∧ (v4).toInt ≤ 39 from ⟨by omega, by omega⟩) hET (Fr.tr fr_z10 g_s0 rfl rfl) (show 41 - (v4).toInt ≤ m21 from by omega)
      · have q18 : (((zA s1 1) (Int32.toNatClampNeg v4))).toInt ≠ (v2).toInt := tneq c9
        exact t_Bounds_gather_b67 N hN kh21 m21 _ _ _ _ _ gs0 hkh21 h_s0 h_s1 (show (1 : Int) ≤ ((zI s1 0)).toInt ∧ ((zI s1 0)).toInt ≤ 40 from ⟨by omega, by omega⟩) (show (0 : Int) ≤ (v2).toInt ∧ (v2).toInt ≤ 95 from ⟨by omega, by omega⟩) (show (0 : Int) ≤ (v4).toInt ∧ (v4).toInt ≤ 39 from ⟨by omega, by omega⟩) hET g_s0 (show 41 - (v4).toInt ≤ m21 from by omega)
theorem t_Bounds_gather_h21 (N : Nat) (hN : 50000000 ≤ N) (s1 : zSt) (v2 : Int32) (v3 : Int32) (gs0 : zSt) (h_s1 : I_Entries s1) (h_v2 : (0 : Int) ≤ (v2).toInt ∧ (v2).toInt ≤ 95) (hET : ET s1) : ∀ (n : Nat) (s0 : zSt) (v4 : Int32), I_Bounds s0 → (0 : Int) ≤ (v4).toInt ∧ (v4).toInt ≤ 40 → Fr [0, 2] [1, 3, 4, 5] s0 gs0 → 41 - (v4).toInt ≤ (n : Int) → zok (Bounds_gather_h21 N s1 v2 v3 n s0 v4) (fun z => I_Bounds z ∧ Fr [0, 2] [1, 3, 4, 5] z gs0)
  | 0, s0, v4, h_s0, h_v4, g_s0, hm => absurd hm (by omega)
  | n + 1, s0, v4, h_s0, h_v4, g_s0, hm => by
    rw [Bounds_gather_h21_s]
    exact t_Bounds_gather_b21 N hN (Bounds_gather_h21 N s1 v2 v3 n) ((n + 1 : Nat) : Int) s0 s1 v2 v3 v4 gs0 (fun s0 v4 h_s0 h_v4 g_s0 q => t_Bounds_gather_h21 N hN  s1 v2 v3 gs0  h_s1 h_v2 hET  n s0 v4 h_s0 h_v4 g_s0 (by omega)) h_s0 h_s1 h_v2 h_v4 hET g_s0 hm
theorem t_Bounds_gather_b0 (N : Nat) (hN : 50000000 ≤ N) (s0 : zSt) (s1 : zSt) (v2 : Int32) (v3 : Int32) (gs0 : zSt) (h_s0 : I_Bounds s0) (h_s1 : I_Entries s1) (h_v2 : (0 : Int) ≤ (v2).toInt ∧ (v2).toInt ≤ 95) (hET : ET s1) (g_s0 : Fr [0, 2] [1, 3, 4, 5] s0 gs0) : zok (Bounds_gather_b0 N s0 s1 v2 v3) (fun z => I_Bounds z ∧ Fr [0, 2] [1, 3, 4, 5] z gs0) := by
  rw [Bounds_gather_b0]
  have q1 := li_0
  refine zok_bind (t_Arrays_fill N hN 4 (zA s0 1) (0 : Int32) (by decide) (show (0 : Int) ≤ ((0 : Int32)).toInt ∧ ((0 : Int32)).toInt ≤ 0 from ⟨by omega, by omega⟩)) (fun z1 hz1 => ?_)
  have h_z1 := hz1
  exact t_Bounds_gather_h21 N hN  _ _ _ gs0  h_s1 (show (0 : Int) ≤ (v2).toInt ∧ (v2).toInt ≤ 95 from ⟨by omega, by omega⟩) hET  N _ _ (IS.sA 1 z1 (IS.pI 2 (0 : Int32) (IS.pI 0 (0 : Int32) h_s0 (tr _)) (show (0 : Int) ≤ ((0 : Int32)).toInt ∧ ((0 : Int32)).toInt ≤ 4 from ⟨by omega, by omega⟩)) (fun _ => tr _)) (show (0 : Int) ≤ ((0 : Int32)).toInt ∧ ((0 : Int32)).toInt ≤ 40 from ⟨by omega, by omega⟩) (Fr.sA (Fr.pI (Fr.pI g_s0 rfl) rfl) rfl) (show 41 - ((0 : Int32)).toInt ≤ (N : Int) from by omega)
theorem t_Bounds_gather (N : Nat) (hN : 50000000 ≤ N) (s0 : zSt) (s1 : zSt) (v2 : Int32) (v3 : Int32) (h_s0 : I_Bounds s0) (h_s1 : I_Entries s1) (h_v2 : (0 : Int) ≤ (v2).toInt ∧ (v2).toInt ≤ 95) (hET : ET s1) : zok (Bounds_gather N s0 s1 v2 v3) (fun z => I_Bounds z ∧ Fr [0, 2] [1, 3, 4, 5] z s0) :=
  t_Bounds_gather_b0 N hN s0 s1 v2 v3 s0 h_s0 h_s1 h_v2 hET ⟨fun _ _ => rfl, fun _ _ => rfl⟩
theorem t_Bounds_canBe_b76 (N : Nat) (hN : 50000000 ≤ N) (kh3 : Int32 → Option (Int32)) (m3 : Int) (s0 : zSt) (n1 : Nat) (f1 : Nat → Int32) (n2 : Nat) (f2 : Nat → Int32) (v1 : Int32) (v4 : Int32) (hkh3 : ∀ (v4 : Int32), (0 : Int) ≤ (v4).toInt ∧ (v4).toInt ≤ 4 → 5 - (v4).toInt ≤ m3 - 1 → zok (kh3 v4) (fun z => ((0 : Int) ≤ (z).toInt ∧ (z).toInt ≤ 1))) (h_s0 : I_Bounds s0) (h_s0_2 : (1 : Int) ≤ (zI s0 2).toInt ∧ (zI s0 2).toInt ≤ 4) (h_n1 : n1 = 48) (h_n2 : n2 = 48) (h_v1 : (0 : Int) ≤ (v1).toInt ∧ (v1).toInt ≤ 11) (h_v4 : (0 : Int) ≤ (v4).toInt ∧ (v4).toInt ≤ 3) (hm3 : 5 - (v4).toInt ≤ m3) : zok (Bounds_canBe_b76 N kh3 s0 n1 f1 n2 f2 v1 v4) (fun z => ((0 : Int) ≤ (z).toInt ∧ (z).toInt ≤ 1)) := by
  rw [Bounds_canBe_b76]
  have q1 := li_1
  have q2 := tadd v4 (1 : Int32) (by omega) (by omega)
  exact hkh3 _ (show (0 : Int) ≤ ((v4 + (1 : Int32))).toInt ∧ ((v4 + (1 : Int32))).toInt ≤ 4 from ⟨by omega, by omega⟩) (show 5 - ((v4 + (1 : Int32))).toInt ≤ m3 - 1 by omega)
theorem t_Bounds_canBe_b3 (N : Nat) (hN : 50000000 ≤ N) (kh3 : Int32 → Option (Int32)) (m3 : Int) (s0 : zSt) (n1 : Nat) (f1 : Nat → Int32) (n2 : Nat) (f2 : Nat → Int32) (v1 : Int32) (v4 : Int32) (hkh3 : ∀ (v4 : Int32), (0 : Int) ≤ (v4).toInt ∧ (v4).toInt ≤ 4 → 5 - (v4).toInt ≤ m3 - 1 → zok (kh3 v4) (fun z => ((0 : Int) ≤ (z).toInt ∧ (z).toInt ≤ 1))) (h_s0 : I_Bounds s0) (h_n1 : n1 = 48) (h_n2 : n2 = 48) (h_v1 : (0 : Int) ≤ (v1).toInt ∧ (v1).toInt ≤ 11) (h_v4 : (0 : Int) ≤ (v4).toInt ∧ (v4).toInt ≤ 4) (hm3 : 5 - (v4).toInt ≤ m3) : zok (Bounds_canBe_b3 N kh3 s0 n1 f1 n2 f2 v1 v4) (fun z => ((0 : Int) ≤ (z).toInt ∧ (z).toInt ≤ 1)) := by
  rw [Bounds_canBe_b3]
  have q2 : (0 : Int) ≤ ((zI s0 2)).toInt ∧ ((zI s0 2)).toInt ≤ 4 := (h_s0).1 2
  refine zok_ite (fun c1 => ?_) (fun c1 => ?_)
  · have q3 : ((zI s0 2)).toInt ≤ (v4).toInt := tle c1
    have q4 := li_1
    exact zok_some (show (0 : Int) ≤ ((1 : Int32)).toInt ∧ ((1 : Int32)).toInt ≤ 1 from ⟨by omega, by omega⟩)
  · have q5 : ((zI s0 2)).toInt > (v4).toInt := tnle c1
    refine zok_ck (show vp_in v4 4 from vin (by omega) (by omega)) ?_
    refine zok_ck (show vp_in v4 4 from vin (by omega) (by omega)) ?_
    have q6 : (0 : Int) ≤ (((zA s0 3) (Int32.toNatClampNeg v4))).toInt ∧ (((zA s0 3) (Int32.toNatClampNeg v4))).toInt ≤ 3 := (h_s0).2 3 _
    refine zok_bind (t_Bounds_has N hN s0 ((zA s0 3) (Int32.toNatClampNeg v4)) v1 h_s0 (show (0 : Int) ≤ (((zA s0 3) (Int32.toNatClampNeg v4))).toInt ∧ (((zA s0 3) (Int32.toNatClampNeg v4))).toInt ≤ 3 from ⟨by omega, by omega⟩) (show (0 : Int) ≤ (v1).toInt ∧ (v1).toInt ≤ 11 from ⟨by omega, by omega⟩)) (fun z4 hz4 => ?_)
    have h_z4 := hz4
    have q8 := li_0
    refine zok_ite (fun c7 => ?_) (fun c7 => ?_)
    · have q9 : (z4).toInt = ((0 : Int32)).toInt := teq c7
      exact t_Bounds_canBe_b76 N hN kh3 m3 _ _ _ _ _ _ _  hkh3 h_s0 (show (1 : Int) ≤ ((zI s0 2)).toInt ∧ ((zI s0 2)).toInt ≤ 4 from ⟨by omega, by omega⟩) h_n1 h_n2 (show (0 : Int) ≤ (v1).toInt ∧ (v1).toInt ≤ 11 from ⟨by omega, by omega⟩) (show (0 : Int) ≤ (v4).toInt ∧ (v4).toInt ≤ 3 from ⟨by omega, by omega⟩) (show 5 - (v4).toInt ≤ m3 from by omega)
    · have q10 : (z4).toInt ≠ ((0 : Int32)).toInt := tneq c7
      have q11 : ((((zA s0 3) (Int32.toNatClampNeg v4)) * (12 : Int32))).toInt = (((zA s0 3) (Int32.toNatClampNeg v4))).toInt * 12 := tmulr ((zA s0 3) (Int32.toNatClampNeg v4)) (12 : Int32) 12 (by decide) (by omega) (by omega)
      have q12 := tadd (((zA s0 3) (Int32.toNatClampNeg v4)) * (12 : Int32)) v1 (by omega) (by omega)
      refine zok_ck (show vp_in ((((zA s0 3) (Int32.toNatClampNeg v4)) * (12 : Int32)) + v1) n1 from vin (by omega) (by omega)) ?_
      refine zok_ck (show vp_in ((((zA s0 3) (Int32.toNatClampNeg v4)) * (12 : Int32)) + v1) 48 from vin (by omega) (by omega)) ?_
      have q14 := tr ((zA s0 5) (Int32.toNatClampNeg ((((zA s0 3) (Int32.toNatClampNeg v4)) * (12 : Int32)) + v1)))
      have q15 := tr (f1 (Int32.toNatClampNeg ((((zA s0 3) (Int32.toNatClampNeg v4)) * (12 : Int32)) + v1)))
      refine zok_ite (fun c13 => ?_) (fun c13 => ?_)
      · have q16 : (((zA s0 5) (Int32.toNatClampNeg ((((zA s0 3) (Int32.toNatClampNeg v4)) * (12 : Int32)) + v1)))).toInt < ((f1 (Int32.toNatClampNeg ((((zA s0 3) (Int32.toNatClampNeg v4)) * (12 : Int32)) + v1)))).toInt := tlt c13
        exact zok_some (show (0 : Int) ≤ ((0 : Int32)).toInt ∧ ((0 : Int32)).toInt ≤ 1 from ⟨by omega, by omega⟩)
      · have q17 : (((zA s0 5) (Int32.toNatClampNeg ((((zA s0 3) (Int32.toNatClampNeg v4)) * (12 : Int32)) + v1)))).toInt ≥ ((f1 (Int32.toNatClampNeg ((((zA s0 3) (Int32.toNatClampNeg v4)) * (12 : Int32)) + v1)))).toInt := tnlt c13
        refine zok_ck (show vp_in ((((zA s0 3) (Int32.toNatClampNeg v4)) * (12 : Int32)) + v1) n1 from vin (by omega) (by omega)) ?_
        refine zok_ck (show vp_in ((((zA s0 3) (Int32.toNatClampNeg v4)) * (12 : Int32)) + v1) n2 from vin (by omega) (by omega)) ?_
        refine zok_ck (show vp_in ((((zA s0 3) (Int32.toNatClampNeg v4)) * (12 : Int32)) + v1) 48 from vin (by omega) (by omega)) ?_
        have q19 := tr ((zA s0 4) (Int32.toNatClampNeg ((((zA s0 3) (Int32.toNatClampNeg v4)) * (12 : Int32)) + v1)))
        have q20 := tr ((f1 (Int32.toNatClampNeg ((((zA s0 3) (Int32.toNatClampNeg v4)) * (12 : Int32)) + v1))) + (f2 (Int32.toNatClampNeg ((((zA s0 3) (Int32.toNatClampNeg v4)) * (12 : Int32)) + v1))))
        refine zok_ite (fun c18 => ?_) (fun c18 => ?_)
        · have q21 : (((zA s0 4) (Int32.toNatClampNeg ((((zA s0 3) (Int32.toNatClampNeg v4)) * (12 : Int32)) + v1)))).toInt ≤ (((f1 (Int32.toNatClampNeg ((((zA s0 3) (Int32.toNatClampNeg v4)) * (12 : Int32)) + v1))) + (f2 (Int32.toNatClampNeg ((((zA s0 3) (Int32.toNatClampNeg v4)) * (12 : Int32)) + v1))))).toInt := tle c18
          exact t_Bounds_canBe_b76 N hN kh3 m3 _ _ _ _ _ _ _  hkh3 h_s0 (show (1 : Int) ≤ ((zI s0 2)).toInt ∧ ((zI s0 2)).toInt ≤ 4 from ⟨by omega, by omega⟩) h_n1 h_n2 (show (0 : Int) ≤ (v1).toInt ∧ (v1).toInt ≤ 11 from ⟨by omega, by omega⟩) (show (0 : Int) ≤ (v4).toInt ∧ (v4).toInt ≤ 3 from ⟨by omega, by omega⟩) (show 5 - (v4).toInt ≤ m3 from by omega)
        · have q22 : (((zA s0 4) (Int32.toNatClampNeg ((((zA s0 3) (Int32.toNatClampNeg v4)) * (12 : Int32)) + v1)))).toInt > (((f1 (Int32.toNatClampNeg ((((zA s0 3) (Int32.toNatClampNeg v4)) * (12 : Int32)) + v1))) + (f2 (Int32.toNatClampNeg ((((zA s0 3) (Int32.toNatClampNeg v4)) * (12 : Int32)) + v1))))).toInt := tnle c18
          exact zok_some (show (0 : Int) ≤ ((0 : Int32)).toInt ∧ ((0 : Int32)).toInt ≤ 1 from ⟨by omega, by omega⟩)
theorem t_Bounds_canBe_h3 (N : Nat) (hN : 50000000 ≤ N) (s0 : zSt) (n1 : Nat) (f1 : (Nat → Int32)) (n2 : Nat) (f2 : (Nat → Int32)) (v1 : Int32) (h_s0 : I_Bounds s0) (h_n1 : n1 = 48) (h_n2 : n2 = 48) (h_v1 : (0 : Int) ≤ (v1).toInt ∧ (v1).toInt ≤ 11) : ∀ (n : Nat) (v4 : Int32), (0 : Int) ≤ (v4).toInt ∧ (v4).toInt ≤ 4 → 5 - (v4).toInt ≤ (n : Int) → zok (Bounds_canBe_h3 N s0 n1 f1 n2 f2 v1 n v4) (fun z => ((0 : Int) ≤ (z).toInt ∧ (z).toInt ≤ 1))
  | 0, v4, h_v4, hm => absurd hm (by omega)
  | n + 1, v4, h_v4, hm => by
    rw [Bounds_canBe_h3_s]
    exact t_Bounds_canBe_b3 N hN (Bounds_canBe_h3 N s0 n1 f1 n2 f2 v1 n) ((n + 1 : Nat) : Int) s0 n1 f1 n2 f2 v1 v4  (fun v4 h_v4 q => t_Bounds_canBe_h3 N hN  s0 n1 f1 n2 f2 v1   h_s0 h_n1 h_n2 h_v1   n v4 h_v4 (by omega)) h_s0 h_n1 h_n2 h_v1 h_v4  hm
theorem t_Bounds_canBe_b0 (N : Nat) (hN : 50000000 ≤ N) (s0 : zSt) (n1 : Nat) (f1 : Nat → Int32) (n2 : Nat) (f2 : Nat → Int32) (v1 : Int32) (h_s0 : I_Bounds s0) (h_n1 : n1 = 48) (h_n2 : n2 = 48) (h_v1 : (0 : Int) ≤ (v1).toInt ∧ (v1).toInt ≤ 11) : zok (Bounds_canBe_b0 N s0 n1 f1 n2 f2 v1) (fun z => ((0 : Int) ≤ (z).toInt ∧ (z).toInt ≤ 1)) := by
  rw [Bounds_canBe_b0]
  have q1 := li_0
  exact t_Bounds_canBe_h3 N hN  _ _ _ _ _ _   h_s0 h_n1 h_n2 (show (0 : Int) ≤ (v1).toInt ∧ (v1).toInt ≤ 11 from ⟨by omega, by omega⟩)  N _ (show (0 : Int) ≤ ((0 : Int32)).toInt ∧ ((0 : Int32)).toInt ≤ 4 from ⟨by omega, by omega⟩) (show 5 - ((0 : Int32)).toInt ≤ (N : Int) from by omega)
theorem t_Bounds_canBe (N : Nat) (hN : 50000000 ≤ N) (s0 : zSt) (n1 : Nat) (f1 : Nat → Int32) (n2 : Nat) (f2 : Nat → Int32) (v1 : Int32) (h_s0 : I_Bounds s0) (h_n1 : n1 = 48) (h_n2 : n2 = 48) (h_v1 : (0 : Int) ≤ (v1).toInt ∧ (v1).toInt ≤ 11) : zok (Bounds_canBe N s0 n1 f1 n2 f2 v1) (fun z => ((0 : Int) ≤ (z).toInt ∧ (z).toInt ≤ 1)) :=
  t_Bounds_canBe_b0 N hN s0 n1 f1 n2 f2 v1  h_s0 h_n1 h_n2 h_v1 
theorem t_CH_within_b0 (N : Nat) (hN : 50000000 ≤ N) (v0 : Int32) (v1 : Int32) (v2 : Int32) : zok (CH_within_b0 N v0 v1 v2) (fun z => ((0 : Int) ≤ (z).toInt ∧ (z).toInt ≤ 1)) := by
  rw [CH_within_b0]
  have q2 := tr v0
  have q3 := tr v1
  refine zok_ite (fun c1 => ?_) (fun c1 => ?_)
  · have q4 : (v0).toInt < (v1).toInt := tlt c1
    have q5 := li_0
    exact zok_some (show (0 : Int) ≤ ((0 : Int32)).toInt ∧ ((0 : Int32)).toInt ≤ 1 from ⟨by omega, by omega⟩)
  · have q6 : (v0).toInt ≥ (v1).toInt := tnlt c1
    have q8 := tr v2
    refine zok_ite (fun c7 => ?_) (fun c7 => ?_)
    · have q9 : (v2).toInt < (v0).toInt := tlt c7
      have q10 := li_0
      exact zok_some (show (0 : Int) ≤ ((0 : Int32)).toInt ∧ ((0 : Int32)).toInt ≤ 1 from ⟨by omega, by omega⟩)
    · have q11 : (v2).toInt ≥ (v0).toInt := tnlt c7
      have q12 := li_1
      exact zok_some (show (0 : Int) ≤ ((1 : Int32)).toInt ∧ ((1 : Int32)).toInt ≤ 1 from ⟨by omega, by omega⟩)
theorem t_CH_within (N : Nat) (hN : 50000000 ≤ N) (v0 : Int32) (v1 : Int32) (v2 : Int32) : zok (CH_within N v0 v1 v2) (fun z => ((0 : Int) ≤ (z).toInt ∧ (z).toInt ≤ 1)) :=
  t_CH_within_b0 N hN v0 v1 v2   
theorem t_Bounds_allow_b0 (N : Nat) (hN : 50000000 ≤ N) (s0 : zSt) (v1 : Int32) (v2 : Int32) (v3 : Int32) (h_s0 : I_Bounds s0) (h_v1 : (0 : Int) ≤ (v1).toInt ∧ (v1).toInt ≤ 3) (h_v2 : (0 : Int) ≤ (v2).toInt ∧ (v2).toInt ≤ 11) : zok (Bounds_allow_b0 N s0 v1 v2 v3) (fun z => ((0 : Int) ≤ (z).toInt ∧ (z).toInt ≤ 1)) := by
  rw [Bounds_allow_b0]
  have q1 : ((v1 * (12 : Int32))).toInt = (v1).toInt * 12 := tmulr v1 (12 : Int32) 12 (by decide) (by omega) (by omega)
  have q2 := tadd (v1 * (12 : Int32)) v2 (by omega) (by omega)
  refine zok_ck (show vp_in ((v1 * (12 : Int32)) + v2) 48 from vin (by omega) (by omega)) ?_
  refine zok_ck (show vp_in ((v1 * (12 : Int32)) + v2) 48 from vin (by omega) (by omega)) ?_
  rcases u_CH_within N v3 ((zA s0 4) (Int32.toNatClampNeg ((v1 * (12 : Int32)) + v2))) ((zA s0 5) (Int32.toNatClampNeg ((v1 * (12 : Int32)) + v2)))  with w3 | ⟨w3, w3_0, w3_1⟩ <;> rw [w3, zbs]
  · refine zok_cb (by decide) ?_
    have q9 := li_0
    exact zok_some (show (0 : Int) ≤ ((0 : Int32)).toInt ∧ ((0 : Int32)).toInt ≤ 1 from ⟨by omega, by omega⟩)
  · have q4 := tr ((zA s0 4) (Int32.toNatClampNeg ((v1 * (12 : Int32)) + v2)))
    have q5 := tr v3
    have q6 : (((zA s0 4) (Int32.toNatClampNeg ((v1 * (12 : Int32)) + v2)))).toInt ≤ (v3).toInt := w3_0
    have q7 := tr ((zA s0 5) (Int32.toNatClampNeg ((v1 * (12 : Int32)) + v2)))
    have q8 : (v3).toInt ≤ (((zA s0 5) (Int32.toNatClampNeg ((v1 * (12 : Int32)) + v2)))).toInt := w3_1
    refine zok_cb (by decide) ?_
    have q10 := li_1
    exact zok_some (show (0 : Int) ≤ ((1 : Int32)).toInt ∧ ((1 : Int32)).toInt ≤ 1 from ⟨by omega, by omega⟩)
theorem t_Bounds_allow (N : Nat) (hN : 50000000 ≤ N) (s0 : zSt) (v1 : Int32) (v2 : Int32) (v3 : Int32) (h_s0 : I_Bounds s0) (h_v1 : (0 : Int) ≤ (v1).toInt ∧ (v1).toInt ≤ 3) (h_v2 : (0 : Int) ≤ (v2).toInt ∧ (v2).toInt ≤ 11) : zok (Bounds_allow N s0 v1 v2 v3) (fun z => ((0 : Int) ≤ (z).toInt ∧ (z).toInt ≤ 1)) :=
  t_Bounds_allow_b0 N hN s0 v1 v2 v3  h_s0 h_v1 h_v2 
theorem t_Valley_isBeast_b0 (N : Nat) (hN : 50000000 ≤ N) (s0 : zSt) (v1 : Int32) (h_s0 : I_Valley s0) (h_s0_3 : (1 : Int) ≤ (zI s0 3).toInt ∧ (zI s0 3).toInt ≤ 11) (h_v1 : (0 : Int) ≤ (v1).toInt ∧ (v1).toInt ≤ 10) : zok (Valley_isBeast_b0 N s0 v1) (fun z => ((0 : Int) ≤ (z).toInt ∧ (z).toInt ≤ 1)) := by
  rw [Valley_isBeast_b0]
  refine zok_ite (fun c1 => ?_) (fun c1 => ?_)
  · have q2 := li_1
    exact zok_some (show (0 : Int) ≤ ((1 : Int32)).toInt ∧ ((1 : Int32)).toInt ≤ 1 from ⟨by omega, by omega⟩)
  · have q3 := li_0
    exact zok_some (show (0 : Int) ≤ ((0 : Int32)).toInt ∧ ((0 : Int32)).toInt ≤ 1 from ⟨by omega, by omega⟩)
theorem t_Valley_isBeast (N : Nat) (hN : 50000000 ≤ N) (s0 : zSt) (v1 : Int32) (h_s0 : I_Valley s0) (h_s0_3 : (1 : Int) ≤ (zI s0 3).toInt ∧ (zI s0 3).toInt ≤ 11) (h_v1 : (0 : Int) ≤ (v1).toInt ∧ (v1).toInt ≤ 10) : zok (Valley_isBeast N s0 v1) (fun z => ((0 : Int) ≤ (z).toInt ∧ (z).toInt ≤ 1)) :=
  t_Valley_isBeast_b0 N hN s0 v1  h_s0 h_s0_3 h_v1 
theorem t_Creeps_gather_b166 (N : Nat) (hN : 50000000 ≤ N) (kh75 : zSt → Int32 → Option (zSt)) (m75 : Int) (s0 : zSt) (s1 : zSt) (s2 : zSt) (v3 : Int32) (v4 : Int32) (gs0 : zSt) (hkh75 : ∀ (s0 : zSt) (v4 : Int32), I_Creeps s0 → (0 : Int) ≤ (v4).toInt ∧ (v4).toInt ≤ 40 → ((zI s0 2)).toInt ≤ (v4).toInt → Fr [0, 2] [1, 3, 4, 5, 7] s0 gs0 → 41 - (v4).toInt ≤ m75 - 1 → zok (kh75 s0 v4) (fun z => I_Creeps z ∧ Fr [0, 2] [1, 3, 4, 5, 7] z gs0)) (h_s0 : I_Creeps s0) (h_s1 : I_Valley s1) (h_s1_9 : (0 : Int) ≤ (zI s1 9).toInt ∧ (zI s1 9).toInt ≤ 8) (h_s2 : I_Entries s2) (h_s2_0 : (1 : Int) ≤ (zI s2 0).toInt ∧ (zI s2 0).toInt ≤ 40) (h_v4 : (0 : Int) ≤ (v4).toInt ∧ (v4).toInt ≤ 39) (hx0 : ((zI s0 2)).toInt ≤ ((v4 + (1 : Int32))).toInt) (g_s0 : Fr [0, 2] [1, 3, 4, 5, 7] s0 gs0) (hm75 : 41 - (v4).toInt ≤ m75) : zok (Creeps_gather_b166 N kh75 s0 s1 s2 v3 v4) (fun z => I_Creeps z ∧ Fr [0, 2] [1, 3, 4, 5, 7] z gs0) := by
  rw [Creeps_gather_b166]
  have q1 := li_1
  have q2 := tadd v4 (1 : Int32) (by omega) (by omega)
  have q3 : (0 : Int) ≤ ((zI s0 2)).toInt ∧ ((zI s0 2)).toInt ≤ 40 := (h_s0).1 2
  exact hkh75 _ _ h_s0 (show (0 : Int) ≤ ((v4 + (1 : Int32))).toInt ∧ ((v4 + (1 : Int32))).toInt ≤ 40 from ⟨by omega, by omega⟩) (show ((zI s0 2)).toInt ≤ ((v4 + (1 : Int32))).toInt from by omega) g_s0 (show 41 - ((v4 + (1 : Int32))).toInt ≤ m75 - 1 by omega)
theorem t_Creeps_gather_b75 (N : Nat) (hN : 50000000 ≤ N) (kh75 : zSt → Int32 → Option (zSt)) (m75 : Int) (s0 : zSt) (s1 : zSt) (s2 : zSt) (v3 : Int32) (v4 : Int32) (gs0 : zSt) (hkh75 : ∀ (s0 : zSt) (v4 : Int32), I_Creeps s0 → (0 : Int) ≤ (v4).toInt ∧ (v4).toInt ≤ 40 → ((zI s0 2)).toInt ≤ (v4).toInt → Fr [0, 2] [1, 3, 4, 5, 7] s0 gs0 → 41 - (v4).toInt ≤ m75 - 1 → zok (kh75 s0 v4) (fun z => I_Creeps z ∧ Fr [0, 2] [1, 3, 4, 5, 7] z gs0)) (h_s0 : I_Creeps s0) (h_s1 : I_Valley s1) (h_s1_9 : (0 : Int) ≤ (zI s1 9).toInt ∧ (zI s1 9).toInt ≤ 8) (h_s2 : I_Entries s2) (h_v4 : (0 : Int) ≤ (v4).toInt ∧ (v4).toInt ≤ 40) (hx0 : ((zI s0 2)).toInt ≤ (v4).toInt) (g_s0 : Fr [0, 2] [1, 3, 4, 5, 7] s0 gs0) (hm75 : 41 - (v4).toInt ≤ m75) : zok (Creeps_gather_b75 N kh75 s0 s1 s2 v3 v4) (fun z => I_Creeps z ∧ Fr [0, 2] [1, 3, 4, 5, 7] z gs0) := by
  rw [Creeps_gather_b75]
  have q2 : (0 : Int) ≤ ((zI s2 0)).toInt ∧ ((zI s2 0)).toInt ≤ 40 := (h_s2).1 0
  refine zok_ite (fun c1 => ?_) (fun c1 => ?_)
  · have q3 : ((zI s2 0)).toInt ≤ (v4).toInt := tle c1
    exact zok_some ⟨h_s0, g_s0⟩
  · have q4 : ((zI s2 0)).toInt > (v4).toInt := tnle c1
    have q6 : (-1 : Int) ≤ (((zA s2 2) (Int32.toNatClampNeg v4))).toInt ∧ (((zA s2 2) (Int32.toNatClampNeg v4))).toInt ≤ 3 := (h_s2).2 2 _
    rcases u_Entries_isSound N s2 v4 (show vp_in v4 40 from vin (by omega) (by omega)) (show (-1 : Int) ≤ (((zA s2 2) (Int32.toNatClampNeg v4))).toInt by omega) with w5 | ⟨w5, w5_0⟩ <;> rw [w5, zbs]
    · refine zok_t (by decide) ?_
      refine zok_bind (t_Entries_counts N hN s2 v4 v3 h_s2 (show (1 : Int) ≤ ((zI s2 0)).toInt ∧ ((zI s2 0)).toInt ≤ 40 from ⟨by omega, by omega⟩) (show (0 : Int) ≤ (v4).toInt ∧ (v4).toInt ≤ 39 from ⟨by omega, by omega⟩)) (fun z5 hz5 => ?_)
      have h_z5 := hz5
      have q10 := li_0
      refine zok_ite (fun c9 => ?_) (fun c9 => ?_)
      · have q11 : (z5).toInt = ((0 : Int32)).toInt := teq c9
        have q12 : (0 : Int) ≤ ((zI s1 9)).toInt ∧ ((zI s1 9)).toInt ≤ 9 := (h_s1).1 9
        have q13 : (0 : Int) ≤ ((zI s0 2)).toInt ∧ ((zI s0 2)).toInt ≤ 40 := (h_s0).1 2
        have q14 := li_1
        have q15 := tadd v4 (1 : Int32) (by omega) (by omega)
        exact t_Creeps_gather_b166 N hN kh75 m75 _ _ _ _ _ gs0 hkh75 h_s0 h_s1 (show (0 : Int) ≤ ((zI s1 9)).toInt ∧ ((zI s1 9)).toInt ≤ 8 from ⟨by omega, by omega⟩) h_s2 (show (1 : Int) ≤ ((zI s2 0)).toInt ∧ ((zI s2 0)).toInt ≤ 40 from ⟨by omega, by omega⟩) (show (0 : Int) ≤ (v4).toInt ∧ (v4).toInt ≤ 39 from ⟨by omega, by omega⟩) (show ((zI s0 2)).toInt ≤ ((v4 + (1 : Int32))).toInt from by omega) g_s0 (show 41 - (v4).toInt ≤ m75 from by omega)
      · have q16 : (z5).toInt ≠ ((0 : Int32)).toInt := tneq c9
        have q17 : (0 : Int) ≤ ((zI s0 2)).toInt ∧ ((zI s0 2)).toInt ≤ 40 := (h_s0).1 2
        refine zok_ck (show vp_in (zI s0 2) 40 from vin (by omega) (by omega)) ?_
        refine zok_ck (show vp_in v4 40 from vin (by omega) (by omega)) ?_
        refine zok_ck (show vp_in (zI s0 2) 40 from vin (by omega) (by omega)) ?_
        refine zok_ck (show vp_in v4 40 from vin (by omega) (by omega)) ?_
        refine zok_ck (show vp_in (zI s0 2) 40 from vin (by omega) (by omega)) ?_
        refine zok_ck (show vp_in (zI s0 2) 360 from vin (by omega) (by omega)) ?_
        have q18 := li_1
        have q19 := tadd (zI s0 2) (1 : Int32) (by omega) (by omega)
        have q20 : (0 : Int) ≤ ((zI s1 9)).toInt ∧ ((zI s1 9)).toInt ≤ 9 := (h_s1).1 9
        have q21 := tadd v4 (1 : Int32) (by omega) (by omega)
        exact t_Creeps_gather_b166 N hN kh75 m75 _ _ _ _ _ gs0 hkh75 (IS.pI 2 ((zI s0 2) + (1 : Int32)) (IS.sA 7 (upd (zA s0 7) (Int32.toNatClampNeg (zI s0 2)) (0 : Int32)) (IS.sA 5 (upd (zA s0 5) (Int32.toNatClampNeg (zI s0 2)) ((zA s2 3) (Int32.toNatClampNeg v4))) (IS.sA 4 (upd (zA s0 4) (Int32.toNatClampNeg (zI s0 2)) ((zA s2 1) (Int32.toNatClampNeg v4))) (IS.sA 3 (upd (zA s0 3) (Int32.toNatClampNeg (zI s0 2)) v4) h_s0 (show ∀ i, (0 : Int) ≤ ((upd (zA s0 3) (Int32.toNatClampNeg (zI s0 2)) v4) i).toInt ∧ ((upd (zA s0 3) (Int32.toNatClampNeg (zI s0 2)) v4) i).toInt ≤ 39 from (rgu (fun i => rgm ((h_s0).2 3 i) (by decide) (by decide)) ⟨by omega, by omega⟩))) (fun _ => tr _)) (fun _ => tr _)) (fun _ => tr _)) (show (0 : Int) ≤ (((zI s0 2) + (1 : Int32))).toInt ∧ (((zI s0 2) + (1 : Int32))).toInt ≤ 40 from ⟨by omega, by omega⟩)) h_s1 (show (0 : Int) ≤ ((zI s1 9)).toInt ∧ ((zI s1 9)).toInt ≤ 8 from ⟨by omega, by omega⟩) h_s2 (show (1 : Int) ≤ ((zI s2 0)).toInt ∧ ((zI s2 0)).toInt ≤ 40 from ⟨by omega, by omega⟩) (show (0 : Int) ≤ (v4).toInt ∧ (v4).toInt ≤ 39 from ⟨by omega, by omega⟩) (show (((zI s0 2) + (1 : Int32))).toInt ≤ ((v4 + (1 : Int32))).toInt from by omega) (Fr.pI (Fr.sA (Fr.sA (Fr.sA (Fr.sA g_s0 rfl) rfl) rfl) rfl) rfl) (show 41 - (v4).toInt ≤ m75 from by omega)
    · have q7 := li_0
      have q8 : ((0 : Int32)).toInt ≤ (((zA s2 2) (Int32.toNatClampNeg v4))).toInt := w5_0
      refine zok_f (by decide) ?_
      have q22 : (0 : Int) ≤ ((zI s1 9)).toInt ∧ ((zI s1 9)).toInt ≤ 9 := (h_s1).1 9
      have q23 : (0 : Int) ≤ ((zI s0 2)).toInt ∧ ((zI s0 2)).toInt ≤ 40 := (h_s0).1 2
      have q24 := li_1
      have q25 := tadd v4 (1 : Int32) (by omega) (by omega)
      exact t_Creeps_gather_b166 N hN kh75 m75 _ _ _ _ _ gs0 hkh75 h_s0 h_s1 (show (0 : Int) ≤ ((zI s1 9)).toInt ∧ ((zI s1 9)).toInt ≤ 8 from ⟨by omega, by omega⟩) h_s2 (show (1 : Int) ≤ ((zI s2 0)).toInt ∧ ((zI s2 0)).toInt ≤ 40 from ⟨by omega, by omega⟩) (show (0 : Int) ≤ (v4).toInt ∧ (v4).toInt ≤ 39 from ⟨by omega, by omega⟩) (show ((zI s0 2)).toInt ≤ ((v4 + (1 : Int32))).toInt from by omega) g_s0 (show 41 - (v4).toInt ≤ m75 from by omega)
theorem t_Creeps_gather_h75 (N : Nat) (hN : 50000000 ≤ N) (s1 : zSt) (s2 : zSt) (v3 : Int32) (gs0 : zSt) (h_s1 : I_Valley s1) (h_s1_9 : (0 : Int) ≤ (zI s1 9).toInt ∧ (zI s1 9).toInt ≤ 8) (h_s2 : I_Entries s2) : ∀ (n : Nat) (s0 : zSt) (v4 : Int32), I_Creeps s0 → (0 : Int) ≤ (v4).toInt ∧ (v4).toInt ≤ 40 → ((zI s0 2)).toInt ≤ (v4).toInt → Fr [0, 2] [1, 3, 4, 5, 7] s0 gs0 → 41 - (v4).toInt ≤ (n : Int) → zok (Creeps_gather_h75 N s1 s2 v3 n s0 v4) (fun z => I_Creeps z ∧ Fr [0, 2] [1, 3, 4, 5, 7] z gs0)
  | 0, s0, v4, h_s0, h_v4, hx0, g_s0, hm => absurd hm (by omega)
  | n + 1, s0, v4, h_s0, h_v4, hx0, g_s0, hm => by
    rw [Creeps_gather_h75_s]
    exact t_Creeps_gather_b75 N hN (Creeps_gather_h75 N s1 s2 v3 n) ((n + 1 : Nat) : Int) s0 s1 s2 v3 v4 gs0 (fun s0 v4 h_s0 h_v4 hx0 g_s0 q => t_Creeps_gather_h75 N hN  s1 s2 v3 gs0  h_s1 h_s1_9 h_s2   n s0 v4 h_s0 h_v4 hx0 g_s0 (by omega)) h_s0 h_s1 h_s1_9 h_s2 h_v4 hx0 g_s0 hm
theorem t_Creeps_gather_b67 (N : Nat) (hN : 50000000 ≤ N) (s0 : zSt) (s1 : zSt) (s2 : zSt) (v3 : Int32) (gs0 : zSt) (h_s0 : I_Creeps s0) (h_s1 : I_Valley s1) (h_s1_9 : (0 : Int) ≤ (zI s1 9).toInt ∧ (zI s1 9).toInt ≤ 8) (h_s2 : I_Entries s2) (g_s0 : Fr [0, 2] [1, 3, 4, 5, 7] s0 gs0) : zok (Creeps_gather_b67 N s0 s1 s2 v3) (fun z => I_Creeps z ∧ Fr [0, 2] [1, 3, 4, 5, 7] z gs0) := by
  rw [Creeps_gather_b67]
  have q1 : (0 : Int) ≤ ((zI s1 9)).toInt ∧ ((zI s1 9)).toInt ≤ 9 := (h_s1).1 9
  have q2 := li_0
  exact t_Creeps_gather_h75 N hN  _ _ _ gs0  h_s1 (show (0 : Int) ≤ ((zI s1 9)).toInt ∧ ((zI s1 9)).toInt ≤ 8 from ⟨by omega, by omega⟩) h_s2  N _ _ (IS.pI 2 (0 : Int32) h_s0 (show (0 : Int) ≤ ((0 : Int32)).toInt ∧ ((0 : Int32)).toInt ≤ 40 from ⟨by omega, by omega⟩)) (show (0 : Int) ≤ ((0 : Int32)).toInt ∧ ((0 : Int32)).toInt ≤ 40 from ⟨by omega, by omega⟩) (show (0 : Int) ≤ (0 : Int) from by omega) (Fr.pI g_s0 rfl) (show 41 - ((0 : Int32)).toInt ≤ (N : Int) from by omega)
theorem t_Creeps_gather_b61 (N : Nat) (hN : 50000000 ≤ N) (kh8 : zSt → Int32 → Option (zSt)) (m8 : Int) (s0 : zSt) (s1 : zSt) (s2 : zSt) (v3 : Int32) (v4 : Int32) (gs0 : zSt) (hkh8 : ∀ (s0 : zSt) (v4 : Int32), I_Creeps s0 → (0 : Int) ≤ (v4).toInt ∧ (v4).toInt ≤ 11 → Fr [0, 2] [1, 3, 4, 5, 7] s0 gs0 → 12 - (v4).toInt ≤ m8 - 1 → zok (kh8 s0 v4) (fun z => I_Creeps z ∧ Fr [0, 2] [1, 3, 4, 5, 7] z gs0)) (h_s0 : I_Creeps s0) (h_s1 : I_Valley s1) (h_s1_3 : (1 : Int) ≤ (zI s1 3).toInt ∧ (zI s1 3).toInt ≤ 11) (h_s1_9 : (0 : Int) ≤ (zI s1 9).toInt ∧ (zI s1 9).toInt ≤ 8) (h_s2 : I_Entries s2) (h_v4 : (0 : Int) ≤ (v4).toInt ∧ (v4).toInt ≤ 10) (g_s0 : Fr [0, 2] [1, 3, 4, 5, 7] s0 gs0) (hm8 : 12 - (v4).toInt ≤ m8) : zok (Creeps_gather_b61 N kh8 s0 s1 s2 v3 v4) (fun z => I_Creeps z ∧ Fr [0, 2] [1, 3, 4, 5, 7] z gs0) := by
  rw [Creeps_gather_b61]
  have q1 := li_1
  have q2 := tadd v4 (1 : Int32) (by omega) (by omega)
  exact hkh8 _ _ h_s0 (show (0 : Int) ≤ ((v4 + (1 : Int32))).toInt ∧ ((v4 + (1 : Int32))).toInt ≤ 11 from ⟨by omega, by omega⟩) g_s0 (show 12 - ((v4 + (1 : Int32))).toInt ≤ m8 - 1 by omega)
theorem t_Creeps_gather_b8 (N : Nat) (hN : 50000000 ≤ N) (kh8 : zSt → Int32 → Option (zSt)) (m8 : Int) (s0 : zSt) (s1 : zSt) (s2 : zSt) (v3 : Int32) (v4 : Int32) (gs0 : zSt) (hkh8 : ∀ (s0 : zSt) (v4 : Int32), I_Creeps s0 → (0 : Int) ≤ (v4).toInt ∧ (v4).toInt ≤ 11 → Fr [0, 2] [1, 3, 4, 5, 7] s0 gs0 → 12 - (v4).toInt ≤ m8 - 1 → zok (kh8 s0 v4) (fun z => I_Creeps z ∧ Fr [0, 2] [1, 3, 4, 5, 7] z gs0)) (h_s0 : I_Creeps s0) (h_s1 : I_Valley s1) (h_s1_9 : (0 : Int) ≤ (zI s1 9).toInt ∧ (zI s1 9).toInt ≤ 8) (h_s2 : I_Entries s2) (h_v4 : (0 : Int) ≤ (v4).toInt ∧ (v4).toInt ≤ 11) (g_s0 : Fr [0, 2] [1, 3, 4, 5, 7] s0 gs0) (hm8 : 12 - (v4).toInt ≤ m8) : zok (Creeps_gather_b8 N kh8 s0 s1 s2 v3 v4) (fun z => I_Creeps z ∧ Fr [0, 2] [1, 3, 4, 5, 7] z gs0) := by
  rw [Creeps_gather_b8]
  have q2 : (0 : Int) ≤ ((zI s1 3)).toInt ∧ ((zI s1 3)).toInt ≤ 11 := (h_s1).1 3
  refine zok_ite (fun c1 => ?_) (fun c1 => ?_)
  · have q3 : ((zI s1 3)).toInt ≤ (v4).toInt := tle c1
    have q4 : (0 : Int) ≤ ((zI s1 9)).toInt ∧ ((zI s1 9)).toInt ≤ 9 := (h_s1).1 9
    exact t_Creeps_gather_b67 N hN  _ _ _ _ gs0  h_s0 h_s1 (show (0 : Int) ≤ ((zI s1 9)).toInt ∧ ((zI s1 9)).toInt ≤ 8 from ⟨by omega, by omega⟩) h_s2 g_s0 
  · have q5 : ((zI s1 3)).toInt > (v4).toInt := tnle c1
    have q7 := li_8
    have q8 : (0 : Int) ≤ ((zI s0 0)).toInt ∧ ((zI s0 0)).toInt ≤ 8 := (h_s0).1 0
    refine zok_ite (fun c6 => ?_) (fun c6 => ?_)
    · have q9 : ((8 : Int32)).toInt ≤ ((zI s0 0)).toInt := tle c6
      have q10 : (0 : Int) ≤ ((zI s1 9)).toInt ∧ ((zI s1 9)).toInt ≤ 9 := (h_s1).1 9
      exact t_Creeps_gather_b67 N hN  _ _ _ _ gs0  h_s0 h_s1 (show (0 : Int) ≤ ((zI s1 9)).toInt ∧ ((zI s1 9)).toInt ≤ 8 from ⟨by omega, by omega⟩) h_s2 g_s0 
    · have q11 : ((8 : Int32)).toInt > ((zI s0 0)).toInt := tnle c6
      refine zok_bind (t_Valley_isBeast N hN s1 v4 h_s1 (show (1 : Int) ≤ ((zI s1 3)).toInt ∧ ((zI s1 3)).toInt ≤ 11 from ⟨by omega, by omega⟩) (show (0 : Int) ≤ (v4).toInt ∧ (v4).toInt ≤ 10 from ⟨by omega, by omega⟩)) (fun z3 hz3 => ?_)
      have h_z3 := hz3
      have q13 := li_0
      refine zok_ite (fun c12 => ?_) (fun c12 => ?_)
      · have q14 : (z3).toInt = ((0 : Int32)).toInt := teq c12
        have q15 : (0 : Int) ≤ ((zI s1 9)).toInt ∧ ((zI s1 9)).toInt ≤ 9 := (h_s1).1 9
        exact t_Creeps_gather_b61 N hN kh8 m8 _ _ _ _ _ gs0 hkh8 h_s0 h_s1 (show (1 : Int) ≤ ((zI s1 3)).toInt ∧ ((zI s1 3)).toInt ≤ 11 from ⟨by omega, by omega⟩) (show (0 : Int) ≤ ((zI s1 9)).toInt ∧ ((zI s1 9)).toInt ≤ 8 from ⟨by omega, by omega⟩) h_s2 (show (0 : Int) ≤ (v4).toInt ∧ (v4).toInt ≤ 10 from ⟨by omega, by omega⟩) g_s0 (show 12 - (v4).toInt ≤ m8 from by omega)
      · have q16 : (z3).toInt ≠ ((0 : Int32)).toInt := tneq c12
        refine zok_ck (show vp_in v4 11 from vin (by omega) (by omega)) ?_
        refine zok_ck (show vp_in (zI s0 0) 8 from vin (by omega) (by omega)) ?_
        have q17 : (0 : Int) ≤ (((zA s1 5) (Int32.toNatClampNeg v4))).toInt ∧ (((zA s1 5) (Int32.toNatClampNeg v4))).toInt ≤ 11 := (h_s1).2 5 _
        have q18 := li_1
        have q19 := tadd (zI s0 0) (1 : Int32) (by omega) (by omega)
        have q20 : (0 : Int) ≤ ((zI s1 9)).toInt ∧ ((zI s1 9)).toInt ≤ 9 := (h_s1).1 9
        exact t_Creeps_gather_b61 N hN kh8 m8 _ _ _ _ _ gs0 hkh8 (IS.pI 0 ((zI s0 0) + (1 : Int32)) (IS.sA 1 (upd (zA s0 1) (Int32.toNatClampNeg (zI s0 0)) ((zA s1 5) (Int32.toNatClampNeg v4))) h_s0 (show ∀ i, (0 : Int) ≤ ((upd (zA s0 1) (Int32.toNatClampNeg (zI s0 0)) ((zA s1 5) (Int32.toNatClampNeg v4))) i).toInt ∧ ((upd (zA s0 1) (Int32.toNatClampNeg (zI s0 0)) ((zA s1 5) (Int32.toNatClampNeg v4))) i).toInt ≤ 11 from (rgu (fun i => rgm ((h_s0).2 1 i) (by decide) (by decide)) ⟨by omega, by omega⟩))) (show (0 : Int) ≤ (((zI s0 0) + (1 : Int32))).toInt ∧ (((zI s0 0) + (1 : Int32))).toInt ≤ 8 from ⟨by omega, by omega⟩)) h_s1 (show (1 : Int) ≤ ((zI s1 3)).toInt ∧ ((zI s1 3)).toInt ≤ 11 from ⟨by omega, by omega⟩) (show (0 : Int) ≤ ((zI s1 9)).toInt ∧ ((zI s1 9)).toInt ≤ 8 from ⟨by omega, by omega⟩) h_s2 (show (0 : Int) ≤ (v4).toInt ∧ (v4).toInt ≤ 10 from ⟨by omega, by omega⟩) (Fr.pI (Fr.sA g_s0 rfl) rfl) (show 12 - (v4).toInt ≤ m8 from by omega)
theorem t_Creeps_gather_h8 (N : Nat) (hN : 50000000 ≤ N) (s1 : zSt) (s2 : zSt) (v3 : Int32) (gs0 : zSt) (h_s1 : I_Valley s1) (h_s1_9 : (0 : Int) ≤ (zI s1 9).toInt ∧ (zI s1 9).toInt ≤ 8) (h_s2 : I_Entries s2) : ∀ (n : Nat) (s0 : zSt) (v4 : Int32), I_Creeps s0 → (0 : Int) ≤ (v4).toInt ∧ (v4).toInt ≤ 11 → Fr [0, 2] [1, 3, 4, 5, 7] s0 gs0 → 12 - (v4).toInt ≤ (n : Int) → zok (Creeps_gather_h8 N s1 s2 v3 n s0 v4) (fun z => I_Creeps z ∧ Fr [0, 2] [1, 3, 4, 5, 7] z gs0)
  | 0, s0, v4, h_s0, h_v4, g_s0, hm => absurd hm (by omega)
  | n + 1, s0, v4, h_s0, h_v4, g_s0, hm => by
    rw [Creeps_gather_h8_s]
    exact t_Creeps_gather_b8 N hN (Creeps_gather_h8 N s1 s2 v3 n) ((n + 1 : Nat) : Int) s0 s1 s2 v3 v4 gs0 (fun s0 v4 h_s0 h_v4 g_s0 q => t_Creeps_gather_h8 N hN  s1 s2 v3 gs0  h_s1 h_s1_9 h_s2   n s0 v4 h_s0 h_v4 g_s0 (by omega)) h_s0 h_s1 h_s1_9 h_s2 h_v4 g_s0 hm
theorem t_Creeps_gather_b0 (N : Nat) (hN : 50000000 ≤ N) (s0 : zSt) (s1 : zSt) (s2 : zSt) (v3 : Int32) (gs0 : zSt) (h_s0 : I_Creeps s0) (h_s1 : I_Valley s1) (h_s1_9 : (0 : Int) ≤ (zI s1 9).toInt ∧ (zI s1 9).toInt ≤ 8) (h_s2 : I_Entries s2) (g_s0 : Fr [0, 2] [1, 3, 4, 5, 7] s0 gs0) : zok (Creeps_gather_b0 N s0 s1 s2 v3) (fun z => I_Creeps z ∧ Fr [0, 2] [1, 3, 4, 5, 7] z gs0) := by
  rw [Creeps_gather_b0]
  have q1 : (0 : Int) ≤ ((zI s1 9)).toInt ∧ ((zI s1 9)).toInt ≤ 9 := (h_s1).1 9
  have q2 := li_0
  exact t_Creeps_gather_h8 N hN  _ _ _ gs0  h_s1 (show (0 : Int) ≤ ((zI s1 9)).toInt ∧ ((zI s1 9)).toInt ≤ 8 from ⟨by omega, by omega⟩) h_s2  N _ _ (IS.pI 0 (0 : Int32) h_s0 (show (0 : Int) ≤ ((0 : Int32)).toInt ∧ ((0 : Int32)).toInt ≤ 8 from ⟨by omega, by omega⟩)) (show (0 : Int) ≤ ((0 : Int32)).toInt ∧ ((0 : Int32)).toInt ≤ 11 from ⟨by omega, by omega⟩) (Fr.pI g_s0 rfl) (show 12 - ((0 : Int32)).toInt ≤ (N : Int) from by omega)
theorem t_Creeps_gather (N : Nat) (hN : 50000000 ≤ N) (s0 : zSt) (s1 : zSt) (s2 : zSt) (v3 : Int32) (h_s0 : I_Creeps s0) (h_s1 : I_Valley s1) (h_s1_9 : (0 : Int) ≤ (zI s1 9).toInt ∧ (zI s1 9).toInt ≤ 8) (h_s2 : I_Entries s2) : zok (Creeps_gather N s0 s1 s2 v3) (fun z => I_Creeps z ∧ Fr [0, 2] [1, 3, 4, 5, 7] z s0) :=
  t_Creeps_gather_b0 N hN s0 s1 s2 v3 s0 h_s0 h_s1 h_s1_9 h_s2 ⟨fun _ _ => rfl, fun _ _ => rfl⟩
theorem t_bc48 (N : Nat) (x : Int32) : zok (Integer_bitCount_b48 N x) (fun z => ((0 : Int) ≤ (z).toInt ∧ (z).toInt ≤ 63)) := by
  have q := tandr x (63 : Int32) (by decide)
  have e : (63 : Int32).toInt = 63 := by decide
  exact zok_some ⟨by omega, by omega⟩
theorem t_Integer_bitCount (N : Nat) (hN : 50000000 ≤ N) (v0 : Int32) : zok (Integer_bitCount N v0) (fun z => ((0 : Int) ≤ (z).toInt ∧ (z).toInt ≤ 63)) := by
  unfold Integer_bitCount Integer_bitCount_b0 Integer_bitCount_b24 Integer_bitCount_b34 Integer_bitCount_b41
  exact t_bc48 N _
theorem t_Creeps_countNotTooMany_b2 (N : Nat) (hN : 50000000 ≤ N) (kh2 : Int32 → Option (Int32)) (m2 : Int) (s0 : zSt) (v1 : Int32) (hkh2 : ∀ (v1 : Int32), (0 : Int) ≤ (v1).toInt ∧ (v1).toInt ≤ 40 → 41 - (v1).toInt ≤ m2 - 1 → zok (kh2 v1) (fun z => ((0 : Int) ≤ (z).toInt ∧ (z).toInt ≤ 40))) (h_s0 : I_Creeps s0) (h_v1 : (0 : Int) ≤ (v1).toInt ∧ (v1).toInt ≤ 40) (hm2 : 41 - (v1).toInt ≤ m2) : zok (Creeps_countNotTooMany_b2 N kh2 s0 v1) (fun z => ((0 : Int) ≤ (z).toInt ∧ (z).toInt ≤ 40)) := by
  rw [Creeps_countNotTooMany_b2]
  have q2 : (0 : Int) ≤ ((zI s0 2)).toInt ∧ ((zI s0 2)).toInt ≤ 40 := (h_s0).1 2
  refine zok_ite (fun c1 => ?_) (fun c1 => ?_)
  · have q3 : ((zI s0 2)).toInt ≤ (v1).toInt := tle c1
    exact zok_some (show (0 : Int) ≤ (v1).toInt ∧ (v1).toInt ≤ 40 from ⟨by omega, by omega⟩)
  · have q4 : ((zI s0 2)).toInt > (v1).toInt := tnle c1
    refine zok_ck (show vp_in v1 40 from vin (by omega) (by omega)) ?_
    refine zok_bind (t_Integer_bitCount N hN ((zA s0 5) (Int32.toNatClampNeg v1)) ) (fun z3 hz3 => ?_)
    have h_z3 := hz3
    have q6 : (0 : Int) ≤ ((zI s0 0)).toInt ∧ ((zI s0 0)).toInt ≤ 8 := (h_s0).1 0
    refine zok_ite (fun c5 => ?_) (fun c5 => ?_)
    · have q7 : ((zI s0 0)).toInt < (z3).toInt := tlt c5
      exact zok_some (show (0 : Int) ≤ (v1).toInt ∧ (v1).toInt ≤ 40 from ⟨by omega, by omega⟩)
    · have q8 : ((zI s0 0)).toInt ≥ (z3).toInt := tnlt c5
      have q9 := li_1
      have q10 := tadd v1 (1 : Int32) (by omega) (by omega)
      exact hkh2 _ (show (0 : Int) ≤ ((v1 + (1 : Int32))).toInt ∧ ((v1 + (1 : Int32))).toInt ≤ 40 from ⟨by omega, by omega⟩) (show 41 - ((v1 + (1 : Int32))).toInt ≤ m2 - 1 by omega)
theorem t_Creeps_countNotTooMany_h2 (N : Nat) (hN : 50000000 ≤ N) (s0 : zSt) (h_s0 : I_Creeps s0) : ∀ (n : Nat) (v1 : Int32), (0 : Int) ≤ (v1).toInt ∧ (v1).toInt ≤ 40 → 41 - (v1).toInt ≤ (n : Int) → zok (Creeps_countNotTooMany_h2 N s0 n v1) (fun z => ((0 : Int) ≤ (z).toInt ∧ (z).toInt ≤ 40))
  | 0, v1, h_v1, hm => absurd hm (by omega)
  | n + 1, v1, h_v1, hm => by
    rw [Creeps_countNotTooMany_h2_s]
    exact t_Creeps_countNotTooMany_b2 N hN (Creeps_countNotTooMany_h2 N s0 n) ((n + 1 : Nat) : Int) s0 v1  (fun v1 h_v1 q => t_Creeps_countNotTooMany_h2 N hN  s0   h_s0   n v1 h_v1 (by omega)) h_s0 h_v1  hm
theorem t_Creeps_countNotTooMany_b0 (N : Nat) (hN : 50000000 ≤ N) (s0 : zSt) (h_s0 : I_Creeps s0) : zok (Creeps_countNotTooMany_b0 N s0) (fun z => ((0 : Int) ≤ (z).toInt ∧ (z).toInt ≤ 40)) := by
  rw [Creeps_countNotTooMany_b0]
  have q1 := li_0
  exact t_Creeps_countNotTooMany_h2 N hN  _   h_s0  N _ (show (0 : Int) ≤ ((0 : Int32)).toInt ∧ ((0 : Int32)).toInt ≤ 40 from ⟨by omega, by omega⟩) (show 41 - ((0 : Int32)).toInt ≤ (N : Int) from by omega)
theorem t_Creeps_countNotTooMany (N : Nat) (hN : 50000000 ≤ N) (s0 : zSt) (h_s0 : I_Creeps s0) : zok (Creeps_countNotTooMany N s0) (fun z => ((0 : Int) ≤ (z).toInt ∧ (z).toInt ≤ 40)) :=
  t_Creeps_countNotTooMany_b0 N hN s0  h_s0 
theorem t_Math_floorMod (N : Nat) (hN : 50000000 ≤ N) (v0 : Int32) (v1 : Int32) (h_v1 : (12 : Int) ≤ (v1).toInt ∧ (v1).toInt ≤ 12) : zok (Math_floorMod N v0 v1) (fun z => True) := by
  have e0 : (0 : Int32).toInt = 0 := by decide
  unfold Math_floorMod Math_floorMod_b0
  refine zok_cz (fun q => absurd (teq q) (by omega)) ?_
  exact zok_ite (fun _ => zok_some trivial) (fun _ => zok_ite (fun _ => zok_some trivial) (fun _ => zok_some trivial))
theorem t_Creeps_ring_b26 (N : Nat) (hN : 50000000 ≤ N) (kh26 : zSt → Int32 → Option (Int32 × zSt)) (m26 : Int) (s0 : zSt) (v1 : Int32) (v2 : Int32) (v3 : Int32) (v4 : Int32) (v5 : Int32) (v6 : Int32) (v7 : Int32) (gs0 : zSt) (hkh26 : ∀ (s0 : zSt) (v7 : Int32), I_Creeps s0 → (1 : Int) ≤ (zI s0 0).toInt ∧ (zI s0 0).toInt ≤ 8 → (0 : Int) ≤ (v7).toInt ∧ (v7).toInt ≤ 40 → Fr [] [7] s0 gs0 → 41 - (v7).toInt ≤ m26 - 1 → zok (kh26 s0 v7) (fun z => ((0 : Int) ≤ (z.1).toInt ∧ (z.1).toInt ≤ 40) ∧ I_Creeps z.2 ∧ Fr [] [7] z.2 gs0)) (h_s0 : I_Creeps s0) (h_s0_0 : (1 : Int) ≤ (zI s0 0).toInt ∧ (zI s0 0).toInt ≤ 8) (h_v1 : (0 : Int) ≤ (v1).toInt ∧ (v1).toInt ≤ 7) (h_v2 : (0 : Int) ≤ (v2).toInt ∧ (v2).toInt ≤ 2) (h_v3 : (0 : Int) ≤ (v3).toInt ∧ (v3).toInt ≤ 40) (h_v4 : (0 : Int) ≤ (v4).toInt ∧ (v4).toInt ≤ 280) (h_v5 : (40 : Int) ≤ (v5).toInt ∧ (v5).toInt ≤ 320) (h_v6 : (-7 : Int) ≤ (v6).toInt ∧ (v6).toInt ≤ 7) (h_v7 : (0 : Int) ≤ (v7).toInt ∧ (v7).toInt ≤ 40) (g_s0 : Fr [] [7] s0 gs0) (hm26 : 41 - (v7).toInt ≤ m26) : zok (Creeps_ring_b26 N kh26 s0 v1 v2 v3 v4 v5 v6 v7) (fun z => ((0 : Int) ≤ (z.1).toInt ∧ (z.1).toInt ≤ 40) ∧ I_Creeps z.2 ∧ Fr [] [7] z.2 gs0) := by
  rw [Creeps_ring_b26]
  refine zok_ite (fun c1 => ?_) (fun c1 => ?_)
  · have q2 : (v3).toInt ≤ (v7).toInt := tle c1
    exact zok_some ⟨(show (0 : Int) ≤ (v3).toInt ∧ (v3).toInt ≤ 40 from ⟨by omega, by omega⟩), h_s0, g_s0⟩
  · have q3 : (v3).toInt > (v7).toInt := tnle c1
    refine zok_ck (show vp_in v1 8 from vin (by omega) (by omega)) ?_
    refine zok_ck (show vp_in v7 40 from vin (by omega) (by omega)) ?_
    have q4 := li_12
    refine zok_bind (t_Math_floorMod N hN (((zA s0 1) (Int32.toNatClampNeg v1)) - (v2 * ((zA s0 4) (Int32.toNatClampNeg v7)))) (12 : Int32) (show (12 : Int) ≤ ((12 : Int32)).toInt ∧ ((12 : Int32)).toInt ≤ 12 from ⟨by omega, by omega⟩)) (fun z4 hz4 => ?_)
    have h_z4 := hz4
    have q5 := tadd v4 v7 (by omega) (by omega)
    refine zok_ck (show vp_in (v4 + v7) 360 from vin (by omega) (by omega)) ?_
    refine zok_ck (show vp_in v7 40 from vin (by omega) (by omega)) ?_
    refine zok_ite (fun c6 => ?_) (fun c6 => ?_)
    · exact zok_some ⟨(show (0 : Int) ≤ (v7).toInt ∧ (v7).toInt ≤ 40 from ⟨by omega, by omega⟩), h_s0, g_s0⟩
    · refine zok_ck (show vp_in v7 40 from vin (by omega) (by omega)) ?_
      refine zok_bind (t_Integer_bitCount N hN (((zA s0 5) (Int32.toNatClampNeg v7)) &&& ((((zA s0 7) (Int32.toNatClampNeg (v4 + v7))) ||| ((1 : Int32) <<< (z4 &&& (31 : Int32)))) ^^^ ((-1) : Int32))) ) (fun z10 hz10 => ?_)
      have h_z10 := hz10
      refine zok_ite (fun c7 => ?_) (fun c7 => ?_)
      · have q8 : (z10).toInt ≤ (v6).toInt := tle c7
        have q9 := tadd v5 v7 (by omega) (by omega)
        refine zok_ck (show vp_in (v5 + v7) 360 from vin (by omega) (by omega)) ?_
        have q10 : (0 : Int) ≤ ((zI s0 0)).toInt ∧ ((zI s0 0)).toInt ≤ 8 := (h_s0).1 0
        have q11 := li_1
        have q12 := tadd v7 (1 : Int32) (by omega) (by omega)
        exact hkh26 _ _ (IS.sA 7 (upd (zA s0 7) (Int32.toNatClampNeg (v5 + v7)) (((zA s0 7) (Int32.toNatClampNeg (v4 + v7))) ||| ((1 : Int32) <<< (z4 &&& (31 : Int32))))) h_s0 (fun _ => tr _)) (show (1 : Int) ≤ ((zI s0 0)).toInt ∧ ((zI s0 0)).toInt ≤ 8 from ⟨by omega, by omega⟩) (show (0 : Int) ≤ ((v7 + (1 : Int32))).toInt ∧ ((v7 + (1 : Int32))).toInt ≤ 40 from ⟨by omega, by omega⟩) (Fr.sA g_s0 rfl) (show 41 - ((v7 + (1 : Int32))).toInt ≤ m26 - 1 by omega)
      · have q13 : (z10).toInt > (v6).toInt := tnle c7
        exact zok_some ⟨(show (0 : Int) ≤ (v7).toInt ∧ (v7).toInt ≤ 40 from ⟨by omega, by omega⟩), h_s0, g_s0⟩
theorem t_Creeps_ring_h26 (N : Nat) (hN : 50000000 ≤ N) (v1 : Int32) (v2 : Int32) (v3 : Int32) (v4 : Int32) (v5 : Int32) (v6 : Int32) (gs0 : zSt) (h_v1 : (0 : Int) ≤ (v1).toInt ∧ (v1).toInt ≤ 7) (h_v2 : (0 : Int) ≤ (v2).toInt ∧ (v2).toInt ≤ 2) (h_v3 : (0 : Int) ≤ (v3).toInt ∧ (v3).toInt ≤ 40) (h_v4 : (0 : Int) ≤ (v4).toInt ∧ (v4).toInt ≤ 280) (h_v5 : (40 : Int) ≤ (v5).toInt ∧ (v5).toInt ≤ 320) (h_v6 : (-7 : Int) ≤ (v6).toInt ∧ (v6).toInt ≤ 7) : ∀ (n : Nat) (s0 : zSt) (v7 : Int32), I_Creeps s0 → (1 : Int) ≤ (zI s0 0).toInt ∧ (zI s0 0).toInt ≤ 8 → (0 : Int) ≤ (v7).toInt ∧ (v7).toInt ≤ 40 → Fr [] [7] s0 gs0 → 41 - (v7).toInt ≤ (n : Int) → zok (Creeps_ring_h26 N v1 v2 v3 v4 v5 v6 n s0 v7) (fun z => ((0 : Int) ≤ (z.1).toInt ∧ (z.1).toInt ≤ 40) ∧ I_Creeps z.2 ∧ Fr [] [7] z.2 gs0)
  | 0, s0, v7, h_s0, h_s0_0, h_v7, g_s0, hm => absurd hm (by omega)
  | n + 1, s0, v7, h_s0, h_s0_0, h_v7, g_s0, hm => by
    rw [Creeps_ring_h26_s]
    exact t_Creeps_ring_b26 N hN (Creeps_ring_h26 N v1 v2 v3 v4 v5 v6 n) ((n + 1 : Nat) : Int) s0 v1 v2 v3 v4 v5 v6 v7 gs0 (fun s0 v7 h_s0 h_s0_0 h_v7 g_s0 q => t_Creeps_ring_h26 N hN  v1 v2 v3 v4 v5 v6 gs0  h_v1 h_v2 h_v3 h_v4 h_v5 h_v6   n s0 v7 h_s0 h_s0_0 h_v7 g_s0 (by omega)) h_s0 h_s0_0 h_v1 h_v2 h_v3 h_v4 h_v5 h_v6 h_v7 g_s0 hm
theorem t_Creeps_ring_b0 (N : Nat) (hN : 50000000 ≤ N) (s0 : zSt) (v1 : Int32) (v2 : Int32) (v3 : Int32) (gs0 : zSt) (h_s0 : I_Creeps s0) (h_s0_0 : (1 : Int) ≤ (zI s0 0).toInt ∧ (zI s0 0).toInt ≤ 8) (h_v1 : (0 : Int) ≤ (v1).toInt ∧ (v1).toInt ≤ 7) (h_v2 : (0 : Int) ≤ (v2).toInt ∧ (v2).toInt ≤ 2) (h_v3 : (0 : Int) ≤ (v3).toInt ∧ (v3).toInt ≤ 40) (hx0 : ((v1 + (1 : Int32))).toInt ≤ ((zI s0 0)).toInt) (hx1 : (v3).toInt ≤ (40 : Int)) (g_s0 : Fr [] [7] s0 gs0) : zok (Creeps_ring_b0 N s0 v1 v2 v3) (fun z => ((0 : Int) ≤ (z.1).toInt ∧ (z.1).toInt ≤ 40) ∧ I_Creeps z.2 ∧ Fr [] [7] z.2 gs0) := by
  rw [Creeps_ring_b0]
  have q1 : ((v1 * (40 : Int32))).toInt = (v1).toInt * 40 := tmulr v1 (40 : Int32) 40 (by decide) (by omega) (by omega)
  have q2 := li_40
  have q3 := tadd (v1 * (40 : Int32)) (40 : Int32) (by omega) (by omega)
  have q4 : (0 : Int) ≤ ((zI s0 0)).toInt ∧ ((zI s0 0)).toInt ≤ 8 := (h_s0).1 0
  have q5 := tsub (zI s0 0) v1 (by omega) (by omega)
  have q6 := li_1
  have q7 := tsub ((zI s0 0) - v1) (1 : Int32) (by omega) (by omega)
  have q8 := li_0
  exact t_Creeps_ring_h26 N hN  _ _ _ _ _ _ gs0  (show (0 : Int) ≤ (v1).toInt ∧ (v1).toInt ≤ 7 from ⟨by omega, by omega⟩) (show (0 : Int) ≤ (v2).toInt ∧ (v2).toInt ≤ 2 from ⟨by omega, by omega⟩) (show (0 : Int) ≤ (v3).toInt ∧ (v3).toInt ≤ 40 from ⟨by omega, by omega⟩) (show (0 : Int) ≤ ((v1 * (40 : Int32))).toInt ∧ ((v1 * (40 : Int32))).toInt ≤ 280 from ⟨by omega, by omega⟩) (show (40 : Int) ≤ (((v1 * (40 : Int32)) + (40 : Int32))).toInt ∧ (((v1 * (40 : Int32)) + (40 : Int32))).toInt ≤ 320 from ⟨by omega, by omega⟩) (show (-7 : Int) ≤ ((((zI s0 0) - v1) - (1 : Int32))).toInt ∧ ((((zI s0 0) - v1) - (1 : Int32))).toInt ≤ 7 from ⟨by omega, by omega⟩)  N _ _ h_s0 (show (1 : Int) ≤ ((zI s0 0)).toInt ∧ ((zI s0 0)).toInt ≤ 8 from ⟨by omega, by omega⟩) (show (0 : Int) ≤ ((0 : Int32)).toInt ∧ ((0 : Int32)).toInt ≤ 40 from ⟨by omega, by omega⟩) g_s0 (show 41 - ((0 : Int32)).toInt ≤ (N : Int) from by omega)
theorem t_Creeps_ring (N : Nat) (hN : 50000000 ≤ N) (s0 : zSt) (v1 : Int32) (v2 : Int32) (v3 : Int32) (h_s0 : I_Creeps s0) (h_s0_0 : (1 : Int) ≤ (zI s0 0).toInt ∧ (zI s0 0).toInt ≤ 8) (h_v1 : (0 : Int) ≤ (v1).toInt ∧ (v1).toInt ≤ 7) (h_v2 : (0 : Int) ≤ (v2).toInt ∧ (v2).toInt ≤ 2) (h_v3 : (0 : Int) ≤ (v3).toInt ∧ (v3).toInt ≤ 40) (hx0 : ((v1 + (1 : Int32))).toInt ≤ ((zI s0 0)).toInt) (hx1 : (v3).toInt ≤ (40 : Int)) : zok (Creeps_ring N s0 v1 v2 v3) (fun z => ((0 : Int) ≤ (z.1).toInt ∧ (z.1).toInt ≤ 40) ∧ I_Creeps z.2 ∧ Fr [] [7] z.2 s0) :=
  t_Creeps_ring_b0 N hN s0 v1 v2 v3 s0 h_s0 h_s0_0 h_v1 h_v2 h_v3 hx0 hx1 ⟨fun _ _ => rfl, fun _ _ => rfl⟩
theorem t_Creeps_seekLeast_b84 (N : Nat) (hN : 50000000 ≤ N) (kr : zSt → Nat → (Nat → Int32) → Int32 → Int32 → Option (zSt × (Nat → Int32))) (mr : Int) (kh40 : zSt → (Nat → Int32) → Int32 → Option (zSt × (Nat → Int32))) (m40 : Int) (s0 : zSt) (n1 : Nat) (f1 : Nat → Int32) (v1 : Int32) (v2 : Int32) (v4 : Int32) (gs0 : zSt) (hkr : ∀ (s0 : zSt) (n1 : Nat) (f1 : (Nat → Int32)) (v1 : Int32) (v2 : Int32), I_Creeps s0 → n1 = 8 → (0 : Int) ≤ (v1).toInt ∧ (v1).toInt ≤ 8 → (0 : Int) ≤ (v2).toInt ∧ (v2).toInt ≤ 20 → 9 - (v1).toInt ≤ mr - 1 → zok (kr s0 n1 f1 v1 v2) (fun z => I_Creeps z.1 ∧ Fr [8] [6, 7] z.1 s0 ∧ True)) (hkh40 : ∀ (s0 : zSt) (f1 : (Nat → Int32)) (v4 : Int32), I_Creeps s0 → (1 : Int) ≤ (zI s0 0).toInt ∧ (zI s0 0).toInt ≤ 8 → (0 : Int) ≤ (v4).toInt ∧ (v4).toInt ≤ 3 → ((v1 + (1 : Int32))).toInt ≤ ((zI s0 0)).toInt → Fr [8] [6, 7] s0 gs0 → 4 - (v4).toInt ≤ m40 - 1 → zok (kh40 s0 f1 v4) (fun z => I_Creeps z.1 ∧ Fr [8] [6, 7] z.1 gs0 ∧ True)) (h_s0 : I_Creeps s0) (h_s0_0 : (1 : Int) ≤ (zI s0 0).toInt ∧ (zI s0 0).toInt ≤ 8) (h_n1 : n1 = 8) (h_v1 : (0 : Int) ≤ (v1).toInt ∧ (v1).toInt ≤ 7) (h_v2 : (0 : Int) ≤ (v2).toInt ∧ (v2).toInt ≤ 16) (h_v4 : (0 : Int) ≤ (v4).toInt ∧ (v4).toInt ≤ 2) (hx0 : ((v1 + (1 : Int32))).toInt ≤ ((zI s0 0)).toInt) (g_s0 : Fr [8] [6, 7] s0 gs0) (hmr : 9 - (v1).toInt ≤ mr) (hm40 : 4 - (v4).toInt ≤ m40) : zok (Creeps_seekLeast_b84 N kr kh40 s0 n1 f1 v1 v2 v4) (fun z => I_Creeps z.1 ∧ Fr [8] [6, 7] z.1 gs0 ∧ True) := by
  rw [Creeps_seekLeast_b84]
  have q1 : (0 : Int) ≤ ((zI s0 0)).toInt ∧ ((zI s0 0)).toInt ≤ 8 := (h_s0).1 0
  have q2 := li_1
  have q3 := tadd v4 (1 : Int32) (by omega) (by omega)
  have q4 := tadd v1 (1 : Int32) (by omega) (by omega)
  exact hkh40 _ _ _ h_s0 (show (1 : Int) ≤ ((zI s0 0)).toInt ∧ ((zI s0 0)).toInt ≤ 8 from ⟨by omega, by omega⟩) (show (0 : Int) ≤ ((v4 + (1 : Int32))).toInt ∧ ((v4 + (1 : Int32))).toInt ≤ 3 from ⟨by omega, by omega⟩) (show ((v1 + (1 : Int32))).toInt ≤ ((zI s0 0)).toInt from by omega) g_s0 (show 4 - ((v4 + (1 : Int32))).toInt ≤ m40 - 1 by omega)
theorem t_Creeps_seekLeast_b40 (N : Nat) (hN : 50000000 ≤ N) (kr : zSt → Nat → (Nat → Int32) → Int32 → Int32 → Option (zSt × (Nat → Int32))) (mr : Int) (kh40 : zSt → (Nat → Int32) → Int32 → Option (zSt × (Nat → Int32))) (m40 : Int) (s0 : zSt) (n1 : Nat) (f1 : Nat → Int32) (v1 : Int32) (v2 : Int32) (v4 : Int32) (gs0 : zSt) (hkr : ∀ (s0 : zSt) (n1 : Nat) (f1 : (Nat → Int32)) (v1 : Int32) (v2 : Int32), I_Creeps s0 → n1 = 8 → (0 : Int) ≤ (v1).toInt ∧ (v1).toInt ≤ 8 → (0 : Int) ≤ (v2).toInt ∧ (v2).toInt ≤ 20 → 9 - (v1).toInt ≤ mr - 1 → zok (kr s0 n1 f1 v1 v2) (fun z => I_Creeps z.1 ∧ Fr [8] [6, 7] z.1 s0 ∧ True)) (hkh40 : ∀ (s0 : zSt) (f1 : (Nat → Int32)) (v4 : Int32), I_Creeps s0 → (1 : Int) ≤ (zI s0 0).toInt ∧ (zI s0 0).toInt ≤ 8 → (0 : Int) ≤ (v4).toInt ∧ (v4).toInt ≤ 3 → ((v1 + (1 : Int32))).toInt ≤ ((zI s0 0)).toInt → Fr [8] [6, 7] s0 gs0 → 4 - (v4).toInt ≤ m40 - 1 → zok (kh40 s0 f1 v4) (fun z => I_Creeps z.1 ∧ Fr [8] [6, 7] z.1 gs0 ∧ True)) (h_s0 : I_Creeps s0) (h_s0_0 : (1 : Int) ≤ (zI s0 0).toInt ∧ (zI s0 0).toInt ≤ 8) (h_n1 : n1 = 8) (h_v1 : (0 : Int) ≤ (v1).toInt ∧ (v1).toInt ≤ 7) (h_v2 : (0 : Int) ≤ (v2).toInt ∧ (v2).toInt ≤ 16) (h_v4 : (0 : Int) ≤ (v4).toInt ∧ (v4).toInt ≤ 3) (hx0 : ((v1 + (1 : Int32))).toInt ≤ ((zI s0 0)).toInt) (g_s0 : Fr [8] [6, 7] s0 gs0) (hmr : 9 - (v1).toInt ≤ mr) (hm40 : 4 - (v4).toInt ≤ m40) : zok (Creeps_seekLeast_b40 N kr kh40 s0 n1 f1 v1 v2 v4) (fun z => I_Creeps z.1 ∧ Fr [8] [6, 7] z.1 gs0 ∧ True) := by
  rw [Creeps_seekLeast_b40]
  have q2 := li_2
  refine zok_ite (fun c1 => ?_) (fun c1 => ?_)
  · have q3 : ((2 : Int32)).toInt < (v4).toInt := tlt c1
    exact zok_some ⟨h_s0, g_s0, trivial⟩
  · have q4 : ((2 : Int32)).toInt ≥ (v4).toInt := tnlt c1
    refine zok_ck (show vp_in v1 8 from vin (by omega) (by omega)) ?_
    have q5 : (0 : Int) ≤ ((zI s0 0)).toInt ∧ ((zI s0 0)).toInt ≤ 8 := (h_s0).1 0
    have q6 : (0 : Int) ≤ ((zI s0 2)).toInt ∧ ((zI s0 2)).toInt ≤ 40 := (h_s0).1 2
    have q7 := li_1
    have q8 := tadd v1 (1 : Int32) (by omega) (by omega)
    have q9 := li_40
    refine zok_bind (t_Creeps_ring N hN (zsA s0 6 (upd (zA s0 6) (Int32.toNatClampNeg v1) v4)) v1 v4 (zI s0 2) (IS.sA 6 (upd (zA s0 6) (Int32.toNatClampNeg v1) v4) h_s0 (show ∀ i, (0 : Int) ≤ ((upd (zA s0 6) (Int32.toNatClampNeg v1) v4) i).toInt ∧ ((upd (zA s0 6) (Int32.toNatClampNeg v1) v4) i).toInt ≤ 2 from (rgu (fun i => rgm ((h_s0).2 6 i) (by decide) (by decide)) ⟨by omega, by omega⟩))) (show (1 : Int) ≤ ((zI s0 0)).toInt ∧ ((zI s0 0)).toInt ≤ 8 from ⟨by omega, by omega⟩) (show (0 : Int) ≤ (v1).toInt ∧ (v1).toInt ≤ 7 from ⟨by omega, by omega⟩) (show (0 : Int) ≤ (v4).toInt ∧ (v4).toInt ≤ 2 from ⟨by omega, by omega⟩) (show (0 : Int) ≤ ((zI s0 2)).toInt ∧ ((zI s0 2)).toInt ≤ 40 from ⟨by omega, by omega⟩) (show ((v1 + (1 : Int32))).toInt ≤ ((zI s0 0)).toInt from by omega) (show ((zI s0 2)).toInt ≤ (40 : Int) from by omega)) (fun z3 hz3 => ?_)
    obtain ⟨h_z3_1, h_z3_2, fr_z3_2⟩ := hz3
    have q11 : (0 : Int) ≤ ((zI z3.2 2)).toInt ∧ ((zI z3.2 2)).toInt ≤ 40 := (h_z3_2).1 2
    have q12 : ((zI z3.2 2)).toInt = ((zI s0 2)).toInt := congrArg Int32.toInt (fr_z3_2.1 2 rfl)
    refine zok_ite (fun c10 => ?_) (fun c10 => ?_)
    · have q13 : (z3.1).toInt = ((zI z3.2 2)).toInt := teq c10
      have q14 := tadd v2 v4 (by omega) (by omega)
      refine zok_bind (hkr (zmg [6] z3.2 (zsA s0 6 (upd (zA s0 6) (Int32.toNatClampNeg v1) v4))) n1 f1 (v1 + (1 : Int32)) (v2 + v4) (IS.mg [6] h_z3_2 (IS.sA 6 (upd (zA s0 6) (Int32.toNatClampNeg v1) v4) h_s0 (show ∀ i, (0 : Int) ≤ ((upd (zA s0 6) (Int32.toNatClampNeg v1) v4) i).toInt ∧ ((upd (zA s0 6) (Int32.toNatClampNeg v1) v4) i).toInt ≤ 2 from (rgu (fun i => rgm ((h_s0).2 6 i) (by decide) (by decide)) ⟨by omega, by omega⟩)))) h_n1 (show (0 : Int) ≤ ((v1 + (1 : Int32))).toInt ∧ ((v1 + (1 : Int32))).toInt ≤ 8 from ⟨by omega, by omega⟩) (show (0 : Int) ≤ ((v2 + v4)).toInt ∧ ((v2 + v4)).toInt ≤ 20 from ⟨by omega, by omega⟩) (show 9 - ((v1 + (1 : Int32))).toInt ≤ mr - 1 from by omega)) (fun z6 hz6 => ?_)
      obtain ⟨h_z6_1, fr_z6_1, h_z6_2⟩ := hz6
      have q15 : (0 : Int) ≤ ((zI z6.1 0)).toInt ∧ ((zI z6.1 0)).toInt ≤ 8 := (h_z6_1).1 0
      have q16 : ((zI z6.1 0)).toInt = ((zI z3.2 0)).toInt := congrArg Int32.toInt (fr_z6_1.1 0 rfl)
      have q17 : (0 : Int) ≤ ((zI z3.2 0)).toInt ∧ ((zI z3.2 0)).toInt ≤ 8 := (h_z3_2).1 0
      have q18 : ((zI z3.2 0)).toInt = ((zI s0 0)).toInt := congrArg Int32.toInt (fr_z3_2.1 0 rfl)
      exact t_Creeps_seekLeast_b84 N hN kr mr kh40 m40 _ _ _ _ _ _ gs0 hkr hkh40 h_z6_1 (show (1 : Int) ≤ ((zI z6.1 0)).toInt ∧ ((zI z6.1 0)).toInt ≤ 8 from ⟨by omega, by omega⟩) h_n1 (show (0 : Int) ≤ (v1).toInt ∧ (v1).toInt ≤ 7 from ⟨by omega, by omega⟩) (show (0 : Int) ≤ (v2).toInt ∧ (v2).toInt ≤ 16 from ⟨by omega, by omega⟩) (show (0 : Int) ≤ (v4).toInt ∧ (v4).toInt ≤ 2 from ⟨by omega, by omega⟩) (show ((v1 + (1 : Int32))).toInt ≤ ((zI z6.1 0)).toInt from by omega) (Fr.tr fr_z6_1 (Fr.mg (Fr.tr fr_z3_2 (Fr.sA g_s0 rfl) rfl rfl) (Fr.sA g_s0 rfl)) rfl rfl) (show 9 - (v1).toInt ≤ mr from by omega) (show 4 - (v4).toInt ≤ m40 from by omega)
    · have q19 : (z3.1).toInt ≠ ((zI z3.2 2)).toInt := tneq c10
      have q20 : (0 : Int) ≤ ((zI z3.2 0)).toInt ∧ ((zI z3.2 0)).toInt ≤ 8 := (h_z3_2).1 0
      have q21 : ((zI z3.2 0)).toInt = ((zI s0 0)).toInt := congrArg Int32.toInt (fr_z3_2.1 0 rfl)
      exact t_Creeps_seekLeast_b84 N hN kr mr kh40 m40 _ _ _ _ _ _ gs0 hkr hkh40 (IS.mg [6] h_z3_2 (IS.sA 6 (upd (zA s0 6) (Int32.toNatClampNeg v1) v4) h_s0 (show ∀ i, (0 : Int) ≤ ((upd (zA s0 6) (Int32.toNatClampNeg v1) v4) i).toInt ∧ ((upd (zA s0 6) (Int32.toNatClampNeg v1) v4) i).toInt ≤ 2 from (rgu (fun i => rgm ((h_s0).2 6 i) (by decide) (by decide)) ⟨by omega, by omega⟩)))) (show (1 : Int) ≤ ((zI z3.2 0)).toInt ∧ ((zI z3.2 0)).toInt ≤ 8 from ⟨by omega, by omega⟩) h_n1 (show (0 : Int) ≤ (v1).toInt ∧ (v1).toInt ≤ 7 from ⟨by omega, by omega⟩) (show (0 : Int) ≤ (v2).toInt ∧ (v2).toInt ≤ 16 from ⟨by omega, by omega⟩) (show (0 : Int) ≤ (v4).toInt ∧ (v4).toInt ≤ 2 from ⟨by omega, by omega⟩) (show ((v1 + (1 : Int32))).toInt ≤ ((zI z3.2 0)).toInt from by omega) (Fr.mg (Fr.tr fr_z3_2 (Fr.sA g_s0 rfl) rfl rfl) (Fr.sA g_s0 rfl)) (show 9 - (v1).toInt ≤ mr from by omega) (show 4 - (v4).toInt ≤ m40 from by omega)
theorem t_Creeps_seekLeast_h40 (N : Nat) (hN : 50000000 ≤ N) (kr : zSt → Nat → (Nat → Int32) → Int32 → Int32 → Option (zSt × (Nat → Int32))) (mr : Int) (n1 : Nat) (v1 : Int32) (v2 : Int32) (gs0 : zSt) (hkr : ∀ (s0 : zSt) (n1 : Nat) (f1 : (Nat → Int32)) (v1 : Int32) (v2 : Int32), I_Creeps s0 → n1 = 8 → (0 : Int) ≤ (v1).toInt ∧ (v1).toInt ≤ 8 → (0 : Int) ≤ (v2).toInt ∧ (v2).toInt ≤ 20 → 9 - (v1).toInt ≤ mr - 1 → zok (kr s0 n1 f1 v1 v2) (fun z => I_Creeps z.1 ∧ Fr [8] [6, 7] z.1 s0 ∧ True)) (h_n1 : n1 = 8) (h_v1 : (0 : Int) ≤ (v1).toInt ∧ (v1).toInt ≤ 7) (h_v2 : (0 : Int) ≤ (v2).toInt ∧ (v2).toInt ≤ 16) (hmr : 9 - (v1).toInt ≤ mr) : ∀ (n : Nat) (s0 : zSt) (f1 : (Nat → Int32)) (v4 : Int32), I_Creeps s0 → (1 : Int) ≤ (zI s0 0).toInt ∧ (zI s0 0).toInt ≤ 8 → (0 : Int) ≤ (v4).toInt ∧ (v4).toInt ≤ 3 → ((v1 + (1 : Int32))).toInt ≤ ((zI s0 0)).toInt → Fr [8] [6, 7] s0 gs0 → 4 - (v4).toInt ≤ (n : Int) → zok (Creeps_seekLeast_h40 N kr n1 v1 v2 n s0 f1 v4) (fun z => I_Creeps z.1 ∧ Fr [8] [6, 7] z.1 gs0 ∧ True)
  | 0, s0, f1, v4, h_s0, h_s0_0, h_v4, hx0, g_s0, hm => absurd hm (by omega)
  | n + 1, s0, f1, v4, h_s0, h_s0_0, h_v4, hx0, g_s0, hm => by
    rw [Creeps_seekLeast_h40_s]
    exact t_Creeps_seekLeast_b40 N hN kr mr (Creeps_seekLeast_h40 N kr n1 v1 v2 n) ((n + 1 : Nat) : Int) s0 n1 f1 v1 v2 v4 gs0 hkr (fun s0 f1 v4 h_s0 h_s0_0 h_v4 hx0 g_s0 q => t_Creeps_seekLeast_h40 N hN kr mr n1 v1 v2 gs0 hkr h_n1 h_v1 h_v2  hmr n s0 f1 v4 h_s0 h_s0_0 h_v4 hx0 g_s0 (by omega)) h_s0 h_s0_0 h_n1 h_v1 h_v2 h_v4 hx0 g_s0 hmr hm
theorem t_Creeps_seekLeast_b0 (N : Nat) (hN : 50000000 ≤ N) (kr : zSt → Nat → (Nat → Int32) → Int32 → Int32 → Option (zSt × (Nat → Int32))) (mr : Int) (s0 : zSt) (n1 : Nat) (f1 : Nat → Int32) (v1 : Int32) (v2 : Int32) (gs0 : zSt) (hkr : ∀ (s0 : zSt) (n1 : Nat) (f1 : (Nat → Int32)) (v1 : Int32) (v2 : Int32), I_Creeps s0 → n1 = 8 → (0 : Int) ≤ (v1).toInt ∧ (v1).toInt ≤ 8 → (0 : Int) ≤ (v2).toInt ∧ (v2).toInt ≤ 20 → 9 - (v1).toInt ≤ mr - 1 → zok (kr s0 n1 f1 v1 v2) (fun z => I_Creeps z.1 ∧ Fr [8] [6, 7] z.1 s0 ∧ True)) (h_s0 : I_Creeps s0) (h_n1 : n1 = 8) (h_v1 : (0 : Int) ≤ (v1).toInt ∧ (v1).toInt ≤ 8) (h_v2 : (0 : Int) ≤ (v2).toInt ∧ (v2).toInt ≤ 20) (g_s0 : Fr [8] [6, 7] s0 gs0) (hmr : 9 - (v1).toInt ≤ mr) : zok (Creeps_seekLeast_b0 N kr s0 n1 f1 v1 v2) (fun z => I_Creeps z.1 ∧ Fr [8] [6, 7] z.1 gs0 ∧ True) := by
  rw [Creeps_seekLeast_b0]
  have q2 : (0 : Int) ≤ ((zI s0 8)).toInt ∧ ((zI s0 8)).toInt ≤ 17 := (h_s0).1 8
  refine zok_ite (fun c1 => ?_) (fun c1 => ?_)
  · have q3 : (v2).toInt < ((zI s0 8)).toInt := tlt c1
    have q5 : (0 : Int) ≤ ((zI s0 0)).toInt ∧ ((zI s0 0)).toInt ≤ 8 := (h_s0).1 0
    refine zok_ite (fun c4 => ?_) (fun c4 => ?_)
    · have q6 : (v1).toInt < ((zI s0 0)).toInt := tlt c4
      have q7 := li_0
      have q8 := li_1
      have q9 := tadd v1 (1 : Int32) (by omega) (by omega)
      exact t_Creeps_seekLeast_h40 N hN kr mr _ _ _ gs0 hkr h_n1 (show (0 : Int) ≤ (v1).toInt ∧ (v1).toInt ≤ 7 from ⟨by omega, by omega⟩) (show (0 : Int) ≤ (v2).toInt ∧ (v2).toInt ≤ 16 from ⟨by omega, by omega⟩) (show 9 - (v1).toInt ≤ mr from by omega) N _ _ _ h_s0 (show (1 : Int) ≤ ((zI s0 0)).toInt ∧ ((zI s0 0)).toInt ≤ 8 from ⟨by omega, by omega⟩) (show (0 : Int) ≤ ((0 : Int32)).toInt ∧ ((0 : Int32)).toInt ≤ 3 from ⟨by omega, by omega⟩) (show ((v1 + (1 : Int32))).toInt ≤ ((zI s0 0)).toInt from by omega) g_s0 (show 4 - ((0 : Int32)).toInt ≤ (N : Int) from by omega)
    · have q10 : (v1).toInt ≥ ((zI s0 0)).toInt := tnlt c4
      refine zok_cp (cp_ok (by omega) (by omega) (by omega)) ?_
      exact zok_some ⟨(IS.pI 8 v2 h_s0 (show (0 : Int) ≤ (v2).toInt ∧ (v2).toInt ≤ 17 from ⟨by omega, by omega⟩)), (Fr.pI g_s0 rfl), trivial⟩
  · have q11 : (v2).toInt ≥ ((zI s0 8)).toInt := tnlt c1
    exact zok_some ⟨h_s0, g_s0, trivial⟩
theorem t_Creeps_seekLeast (N : Nat) (hN : 50000000 ≤ N) : ∀ (d : Nat) (s0 : zSt) (n1 : Nat) (f1 : (Nat → Int32)) (v1 : Int32) (v2 : Int32), I_Creeps s0 → n1 = 8 → (0 : Int) ≤ (v1).toInt ∧ (v1).toInt ≤ 8 → (0 : Int) ≤ (v2).toInt ∧ (v2).toInt ≤ 20 → 9 - (v1).toInt ≤ (d : Int) → zok (Creeps_seekLeast N d s0 n1 f1 v1 v2) (fun z => I_Creeps z.1 ∧ Fr [8] [6, 7] z.1 s0 ∧ True)
  | 0, s0, n1, f1, v1, v2, h_s0, h_n1, h_v1, h_v2, hm => absurd hm (by omega)
  | d + 1, s0, n1, f1, v1, v2, h_s0, h_n1, h_v1, h_v2, hm => by
    rw [Creeps_seekLeast_s]
    exact t_Creeps_seekLeast_b0 N hN (Creeps_seekLeast N d) ((d + 1 : Nat) : Int) s0 n1 f1 v1 v2 s0 (fun s0 n1 f1 v1 v2 h_s0 h_n1 h_v1 h_v2 q => t_Creeps_seekLeast N hN d s0 n1 f1 v1 v2 h_s0 h_n1 h_v1 h_v2 (by omega)) h_s0 h_n1 h_v1 h_v2 Fr.rf hm
theorem t_Creeps_leastTogether_b24 (N : Nat) (hN : 50000000 ≤ N) (s0 : zSt) (n1 : Nat) (f1 : Nat → Int32) (gs0 : zSt) (h_s0 : I_Creeps s0) (h_n1 : n1 = 8) (g_s0 : Fr [8] [6, 7] s0 gs0) : zok (Creeps_leastTogether_b24 N s0 n1 f1) (fun z => ((-1 : Int) ≤ (z.1).toInt ∧ (z.1).toInt ≤ 16) ∧ I_Creeps z.2.1 ∧ Fr [8] [6, 7] z.2.1 gs0 ∧ True) := by
  rw [Creeps_leastTogether_b24]
  have q2 : (0 : Int) ≤ ((zI s0 8)).toInt ∧ ((zI s0 8)).toInt ≤ 17 := (h_s0).1 8
  have q3 := li_16
  refine zok_ite (fun c1 => ?_) (fun c1 => ?_)
  · have q4 : ((zI s0 8)).toInt ≤ ((16 : Int32)).toInt := tle c1
    exact zok_some ⟨(show (-1 : Int) ≤ ((zI s0 8)).toInt ∧ ((zI s0 8)).toInt ≤ 16 from ⟨by omega, by omega⟩), h_s0, g_s0, trivial⟩
  · have q5 : ((zI s0 8)).toInt > ((16 : Int32)).toInt := tnle c1
    have q6 := li_m1
    exact zok_some ⟨(show (-1 : Int) ≤ (((-1) : Int32)).toInt ∧ (((-1) : Int32)).toInt ≤ 16 from ⟨by omega, by omega⟩), h_s0, g_s0, trivial⟩
theorem t_Creeps_leastTogether_b0 (N : Nat) (hN : 50000000 ≤ N) (s0 : zSt) (n1 : Nat) (f1 : Nat → Int32) (gs0 : zSt) (h_s0 : I_Creeps s0) (h_n1 : n1 = 8) (g_s0 : Fr [8] [6, 7] s0 gs0) : zok (Creeps_leastTogether_b0 N s0 n1 f1) (fun z => ((-1 : Int) ≤ (z.1).toInt ∧ (z.1).toInt ≤ 16) ∧ I_Creeps z.2.1 ∧ Fr [8] [6, 7] z.2.1 gs0 ∧ True) := by
  rw [Creeps_leastTogether_b0]
  have q1 := li_17
  refine zok_bind (t_Creeps_countNotTooMany N hN (zpI s0 8 (17 : Int32)) (IS.pI 8 (17 : Int32) h_s0 (show (0 : Int) ≤ ((17 : Int32)).toInt ∧ ((17 : Int32)).toInt ≤ 17 from ⟨by omega, by omega⟩))) (fun z1 hz1 => ?_)
  have h_z1 := hz1
  have q3 : (0 : Int) ≤ ((zI s0 2)).toInt ∧ ((zI s0 2)).toInt ≤ 40 := (h_s0).1 2
  refine zok_ite (fun c2 => ?_) (fun c2 => ?_)
  · have q4 : (z1).toInt = ((zI s0 2)).toInt := teq c2
    have q5 := li_0
    refine zok_bind (t_Creeps_seekLeast N hN 11 (zpI s0 8 (17 : Int32)) n1 f1 (0 : Int32) (0 : Int32) (IS.pI 8 (17 : Int32) h_s0 (show (0 : Int) ≤ ((17 : Int32)).toInt ∧ ((17 : Int32)).toInt ≤ 17 from ⟨by omega, by omega⟩)) h_n1 (show (0 : Int) ≤ ((0 : Int32)).toInt ∧ ((0 : Int32)).toInt ≤ 8 from ⟨by omega, by omega⟩) (show (0 : Int) ≤ ((0 : Int32)).toInt ∧ ((0 : Int32)).toInt ≤ 20 from ⟨by omega, by omega⟩) (show 9 - ((0 : Int32)).toInt ≤ ((11 : Nat) : Int) from by omega)) (fun z4 hz4 => ?_)
    obtain ⟨h_z4_1, fr_z4_1, h_z4_2⟩ := hz4
    exact t_Creeps_leastTogether_b24 N hN  _ _ _ gs0  h_z4_1 h_n1 (Fr.tr fr_z4_1 (Fr.pI g_s0 rfl) rfl rfl) 
  · have q6 : (z1).toInt ≠ ((zI s0 2)).toInt := tneq c2
    exact t_Creeps_leastTogether_b24 N hN  _ _ _ gs0  (IS.pI 8 (17 : Int32) h_s0 (show (0 : Int) ≤ ((17 : Int32)).toInt ∧ ((17 : Int32)).toInt ≤ 17 from ⟨by omega, by omega⟩)) h_n1 (Fr.pI g_s0 rfl) 
theorem t_Creeps_leastTogether (N : Nat) (hN : 50000000 ≤ N) (s0 : zSt) (n1 : Nat) (f1 : Nat → Int32) (h_s0 : I_Creeps s0) (h_n1 : n1 = 8) : zok (Creeps_leastTogether N s0 n1 f1) (fun z => ((-1 : Int) ≤ (z.1).toInt ∧ (z.1).toInt ≤ 16) ∧ I_Creeps z.2.1 ∧ Fr [8] [6, 7] z.2.1 s0 ∧ True) :=
  t_Creeps_leastTogether_b0 N hN s0 n1 f1 s0 h_s0 h_n1 ⟨fun _ _ => rfl, fun _ _ => rfl⟩
theorem t_Creeps_seekFarthest_b25 (N : Nat) (hN : 50000000 ≤ N) (kr : zSt → Int32 → Int32 → Option (zSt)) (mr : Int) (kh25 : zSt → Int32 → Option (zSt)) (m25 : Int) (s0 : zSt) (v1 : Int32) (v2 : Int32) (v3 : Int32) (gs0 : zSt) (hkr : ∀ (s0 : zSt) (v1 : Int32) (v2 : Int32), I_Creeps s0 → (0 : Int) ≤ (v1).toInt ∧ (v1).toInt ≤ 8 → (0 : Int) ≤ (v2).toInt ∧ (v2).toInt ≤ 40 → 9 - (v1).toInt ≤ mr - 1 → zok (kr s0 v1 v2) (fun z => I_Creeps z ∧ Fr [9] [7] z s0)) (hkh25 : ∀ (s0 : zSt) (v3 : Int32), I_Creeps s0 → (1 : Int) ≤ (zI s0 0).toInt ∧ (zI s0 0).toInt ≤ 8 → (0 : Int) ≤ (v3).toInt ∧ (v3).toInt ≤ 3 → ((v1 + (1 : Int32))).toInt ≤ ((zI s0 0)).toInt → (v2).toInt ≤ (40 : Int) → (0 : Int) ≤ (v2).toInt → Fr [9] [7] s0 gs0 → 4 - (v3).toInt ≤ m25 - 1 → zok (kh25 s0 v3) (fun z => I_Creeps z ∧ Fr [9] [7] z gs0)) (h_s0 : I_Creeps s0) (h_s0_0 : (1 : Int) ≤ (zI s0 0).toInt ∧ (zI s0 0).toInt ≤ 8) (h_v1 : (0 : Int) ≤ (v1).toInt ∧ (v1).toInt ≤ 7) (h_v2 : (0 : Int) ≤ (v2).toInt ∧ (v2).toInt ≤ 40) (h_v3 : (0 : Int) ≤ (v3).toInt ∧ (v3).toInt ≤ 3) (hx0 : ((v1 + (1 : Int32))).toInt ≤ ((zI s0 0)).toInt) (hx1 : (v2).toInt ≤ (40 : Int)) (hx2 : (0 : Int) ≤ (v2).toInt) (g_s0 : Fr [9] [7] s0 gs0) (hmr : 9 - (v1).toInt ≤ mr) (hm25 : 4 - (v3).toInt ≤ m25) : zok (Creeps_seekFarthest_b25 N kr kh25 s0 v1 v2 v3) (fun z => I_Creeps z ∧ Fr [9] [7] z gs0) := by
  rw [Creeps_seekFarthest_b25]
  have q2 := li_2
  refine zok_ite (fun c1 => ?_) (fun c1 => ?_)
  · have q3 : ((2 : Int32)).toInt < (v3).toInt := tlt c1
    exact zok_some ⟨h_s0, g_s0⟩
  · have q4 : ((2 : Int32)).toInt ≥ (v3).toInt := tnlt c1
    have q5 : (0 : Int) ≤ ((zI s0 0)).toInt ∧ ((zI s0 0)).toInt ≤ 8 := (h_s0).1 0
    have q6 := li_1
    have q7 := tadd v1 (1 : Int32) (by omega) (by omega)
    have q8 := li_40
    refine zok_bind (t_Creeps_ring N hN s0 v1 v3 v2 h_s0 (show (1 : Int) ≤ ((zI s0 0)).toInt ∧ ((zI s0 0)).toInt ≤ 8 from ⟨by omega, by omega⟩) (show (0 : Int) ≤ (v1).toInt ∧ (v1).toInt ≤ 7 from ⟨by omega, by omega⟩) (show (0 : Int) ≤ (v3).toInt ∧ (v3).toInt ≤ 2 from ⟨by omega, by omega⟩) (show (0 : Int) ≤ (v2).toInt ∧ (v2).toInt ≤ 40 from ⟨by omega, by omega⟩) (show ((v1 + (1 : Int32))).toInt ≤ ((zI s0 0)).toInt from by omega) (show (v2).toInt ≤ (40 : Int) from by omega)) (fun z2 hz2 => ?_)
    obtain ⟨h_z2_1, h_z2_2, fr_z2_2⟩ := hz2
    refine zok_bind (hkr z2.2 (v1 + (1 : Int32)) z2.1 h_z2_2 (show (0 : Int) ≤ ((v1 + (1 : Int32))).toInt ∧ ((v1 + (1 : Int32))).toInt ≤ 8 from ⟨by omega, by omega⟩) (show (0 : Int) ≤ (z2.1).toInt ∧ (z2.1).toInt ≤ 40 from ⟨by omega, by omega⟩) (show 9 - ((v1 + (1 : Int32))).toInt ≤ mr - 1 from by omega)) (fun z4 hz4 => ?_)
    obtain ⟨h_z4, fr_z4⟩ := hz4
    have q9 : (0 : Int) ≤ ((zI z4 0)).toInt ∧ ((zI z4 0)).toInt ≤ 8 := (h_z4).1 0
    have q10 : ((zI z4 0)).toInt = ((zI z2.2 0)).toInt := congrArg Int32.toInt (fr_z4.1 0 rfl)
    have q11 : (0 : Int) ≤ ((zI z2.2 0)).toInt ∧ ((zI z2.2 0)).toInt ≤ 8 := (h_z2_2).1 0
    have q12 : ((zI z2.2 0)).toInt = ((zI s0 0)).toInt := congrArg Int32.toInt (fr_z2_2.1 0 rfl)
    have q13 := tadd v3 (1 : Int32) (by omega) (by omega)
    have q14 := li_0
    exact hkh25 _ _ h_z4 (show (1 : Int) ≤ ((zI z4 0)).toInt ∧ ((zI z4 0)).toInt ≤ 8 from ⟨by omega, by omega⟩) (show (0 : Int) ≤ ((v3 + (1 : Int32))).toInt ∧ ((v3 + (1 : Int32))).toInt ≤ 3 from ⟨by omega, by omega⟩) (show ((v1 + (1 : Int32))).toInt ≤ ((zI z4 0)).toInt from by omega) (show (v2).toInt ≤ (40 : Int) from by omega) (show (0 : Int) ≤ (v2).toInt from by omega) (Fr.tr fr_z4 (Fr.tr fr_z2_2 g_s0 rfl rfl) rfl rfl) (show 4 - ((v3 + (1 : Int32))).toInt ≤ m25 - 1 by omega)
theorem t_Creeps_seekFarthest_h25 (N : Nat) (hN : 50000000 ≤ N) (kr : zSt → Int32 → Int32 → Option (zSt)) (mr : Int) (v1 : Int32) (v2 : Int32) (gs0 : zSt) (hkr : ∀ (s0 : zSt) (v1 : Int32) (v2 : Int32), I_Creeps s0 → (0 : Int) ≤ (v1).toInt ∧ (v1).toInt ≤ 8 → (0 : Int) ≤ (v2).toInt ∧ (v2).toInt ≤ 40 → 9 - (v1).toInt ≤ mr - 1 → zok (kr s0 v1 v2) (fun z => I_Creeps z ∧ Fr [9] [7] z s0)) (h_v1 : (0 : Int) ≤ (v1).toInt ∧ (v1).toInt ≤ 7) (h_v2 : (0 : Int) ≤ (v2).toInt ∧ (v2).toInt ≤ 40) (hmr : 9 - (v1).toInt ≤ mr) : ∀ (n : Nat) (s0 : zSt) (v3 : Int32), I_Creeps s0 → (1 : Int) ≤ (zI s0 0).toInt ∧ (zI s0 0).toInt ≤ 8 → (0 : Int) ≤ (v3).toInt ∧ (v3).toInt ≤ 3 → ((v1 + (1 : Int32))).toInt ≤ ((zI s0 0)).toInt → (v2).toInt ≤ (40 : Int) → (0 : Int) ≤ (v2).toInt → Fr [9] [7] s0 gs0 → 4 - (v3).toInt ≤ (n : Int) → zok (Creeps_seekFarthest_h25 N kr v1 v2 n s0 v3) (fun z => I_Creeps z ∧ Fr [9] [7] z gs0)
  | 0, s0, v3, h_s0, h_s0_0, h_v3, hx0, hx1, hx2, g_s0, hm => absurd hm (by omega)
  | n + 1, s0, v3, h_s0, h_s0_0, h_v3, hx0, hx1, hx2, g_s0, hm => by
    rw [Creeps_seekFarthest_h25_s]
    exact t_Creeps_seekFarthest_b25 N hN kr mr (Creeps_seekFarthest_h25 N kr v1 v2 n) ((n + 1 : Nat) : Int) s0 v1 v2 v3 gs0 hkr (fun s0 v3 h_s0 h_s0_0 h_v3 hx0 hx1 hx2 g_s0 q => t_Creeps_seekFarthest_h25 N hN kr mr v1 v2 gs0 hkr h_v1 h_v2  hmr n s0 v3 h_s0 h_s0_0 h_v3 hx0 hx1 hx2 g_s0 (by omega)) h_s0 h_s0_0 h_v1 h_v2 h_v3 hx0 hx1 hx2 g_s0 hmr hm
theorem t_Creeps_seekFarthest_b0 (N : Nat) (hN : 50000000 ≤ N) (kr : zSt → Int32 → Int32 → Option (zSt)) (mr : Int) (s0 : zSt) (v1 : Int32) (v2 : Int32) (gs0 : zSt) (hkr : ∀ (s0 : zSt) (v1 : Int32) (v2 : Int32), I_Creeps s0 → (0 : Int) ≤ (v1).toInt ∧ (v1).toInt ≤ 8 → (0 : Int) ≤ (v2).toInt ∧ (v2).toInt ≤ 40 → 9 - (v1).toInt ≤ mr - 1 → zok (kr s0 v1 v2) (fun z => I_Creeps z ∧ Fr [9] [7] z s0)) (h_s0 : I_Creeps s0) (h_v1 : (0 : Int) ≤ (v1).toInt ∧ (v1).toInt ≤ 8) (h_v2 : (0 : Int) ≤ (v2).toInt ∧ (v2).toInt ≤ 40) (g_s0 : Fr [9] [7] s0 gs0) (hmr : 9 - (v1).toInt ≤ mr) : zok (Creeps_seekFarthest_b0 N kr s0 v1 v2) (fun z => I_Creeps z ∧ Fr [9] [7] z gs0) := by
  rw [Creeps_seekFarthest_b0]
  have q2 : (-1 : Int) ≤ ((zI s0 9)).toInt ∧ ((zI s0 9)).toInt ≤ 40 := (h_s0).1 9
  refine zok_ite (fun c1 => ?_) (fun c1 => ?_)
  · have q3 : ((zI s0 9)).toInt < (v2).toInt := tlt c1
    have q5 : (0 : Int) ≤ ((zI s0 0)).toInt ∧ ((zI s0 0)).toInt ≤ 8 := (h_s0).1 0
    refine zok_ite (fun c4 => ?_) (fun c4 => ?_)
    · have q6 : (v1).toInt < ((zI s0 0)).toInt := tlt c4
      have q7 := li_0
      have q8 := li_1
      have q9 := tadd v1 (1 : Int32) (by omega) (by omega)
      have q10 := li_40
      exact t_Creeps_seekFarthest_h25 N hN kr mr _ _ gs0 hkr (show (0 : Int) ≤ (v1).toInt ∧ (v1).toInt ≤ 7 from ⟨by omega, by omega⟩) (show (0 : Int) ≤ (v2).toInt ∧ (v2).toInt ≤ 40 from ⟨by omega, by omega⟩) (show 9 - (v1).toInt ≤ mr from by omega) N _ _ h_s0 (show (1 : Int) ≤ ((zI s0 0)).toInt ∧ ((zI s0 0)).toInt ≤ 8 from ⟨by omega, by omega⟩) (show (0 : Int) ≤ ((0 : Int32)).toInt ∧ ((0 : Int32)).toInt ≤ 3 from ⟨by omega, by omega⟩) (show ((v1 + (1 : Int32))).toInt ≤ ((zI s0 0)).toInt from by omega) (show (v2).toInt ≤ (40 : Int) from by omega) (show (0 : Int) ≤ (v2).toInt from by omega) g_s0 (show 4 - ((0 : Int32)).toInt ≤ (N : Int) from by omega)
    · have q11 : (v1).toInt ≥ ((zI s0 0)).toInt := tnlt c4
      exact zok_some ⟨(IS.pI 9 v2 h_s0 (show (-1 : Int) ≤ (v2).toInt ∧ (v2).toInt ≤ 40 from ⟨by omega, by omega⟩)), (Fr.pI g_s0 rfl)⟩
  · have q12 : ((zI s0 9)).toInt ≥ (v2).toInt := tnlt c1
    exact zok_some ⟨h_s0, g_s0⟩
theorem t_Creeps_seekFarthest (N : Nat) (hN : 50000000 ≤ N) : ∀ (d : Nat) (s0 : zSt) (v1 : Int32) (v2 : Int32), I_Creeps s0 → (0 : Int) ≤ (v1).toInt ∧ (v1).toInt ≤ 8 → (0 : Int) ≤ (v2).toInt ∧ (v2).toInt ≤ 40 → 9 - (v1).toInt ≤ (d : Int) → zok (Creeps_seekFarthest N d s0 v1 v2) (fun z => I_Creeps z ∧ Fr [9] [7] z s0)
  | 0, s0, v1, v2, h_s0, h_v1, h_v2, hm => absurd hm (by omega)
  | d + 1, s0, v1, v2, h_s0, h_v1, h_v2, hm => by
    rw [Creeps_seekFarthest_s]
    exact t_Creeps_seekFarthest_b0 N hN (Creeps_seekFarthest N d) ((d + 1 : Nat) : Int) s0 v1 v2 s0 (fun s0 v1 v2 h_s0 h_v1 h_v2 q => t_Creeps_seekFarthest N hN d s0 v1 v2 h_s0 h_v1 h_v2 (by omega)) h_s0 h_v1 h_v2 Fr.rf hm
theorem t_Creeps_firstThatCant_b0 (N : Nat) (hN : 50000000 ≤ N) (s0 : zSt) (gs0 : zSt) (h_s0 : I_Creeps s0) (g_s0 : Fr [9] [7] s0 gs0) : zok (Creeps_firstThatCant_b0 N s0) (fun z => ((-1 : Int) ≤ (z.1).toInt ∧ (z.1).toInt ≤ 39) ∧ I_Creeps z.2 ∧ Fr [9] [7] z.2 gs0) := by
  rw [Creeps_firstThatCant_b0]
  have q1 := li_m1
  refine zok_bind (t_Creeps_countNotTooMany N hN (zpI s0 9 ((-1) : Int32)) (IS.pI 9 ((-1) : Int32) h_s0 (show (-1 : Int) ≤ (((-1) : Int32)).toInt ∧ (((-1) : Int32)).toInt ≤ 40 from ⟨by omega, by omega⟩))) (fun z1 hz1 => ?_)
  have h_z1 := hz1
  have q2 := li_0
  refine zok_bind (t_Creeps_seekFarthest N hN 11 (zpI s0 9 ((-1) : Int32)) (0 : Int32) z1 (IS.pI 9 ((-1) : Int32) h_s0 (show (-1 : Int) ≤ (((-1) : Int32)).toInt ∧ (((-1) : Int32)).toInt ≤ 40 from ⟨by omega, by omega⟩)) (show (0 : Int) ≤ ((0 : Int32)).toInt ∧ ((0 : Int32)).toInt ≤ 8 from ⟨by omega, by omega⟩) (show (0 : Int) ≤ (z1).toInt ∧ (z1).toInt ≤ 40 from ⟨by omega, by omega⟩) (show 9 - ((0 : Int32)).toInt ≤ ((11 : Nat) : Int) from by omega)) (fun z3 hz3 => ?_)
  obtain ⟨h_z3, fr_z3⟩ := hz3
  rcases u_CH_within N (zI z3 9) (0 : Int32) ((zI z3 2) - (1 : Int32))  with w3 | ⟨w3, w3_0, w3_1⟩ <;> rw [w3, zbs]
  · refine zok_t (by decide) ?_
    exact zok_some ⟨(show (-1 : Int) ≤ (((-1) : Int32)).toInt ∧ (((-1) : Int32)).toInt ≤ 39 from ⟨by omega, by omega⟩), (IS.mg [3] h_z3 (IS.pI 9 ((-1) : Int32) h_s0 (show (-1 : Int) ≤ (((-1) : Int32)).toInt ∧ (((-1) : Int32)).toInt ≤ 40 from ⟨by omega, by omega⟩))), (Fr.mg (Fr.tr fr_z3 (Fr.pI g_s0 rfl) rfl rfl) (Fr.pI g_s0 rfl))⟩
  · have q4 : (-1 : Int) ≤ ((zI z3 9)).toInt ∧ ((zI z3 9)).toInt ≤ 40 := (h_z3).1 9
    have q5 : ((0 : Int32)).toInt ≤ ((zI z3 9)).toInt := w3_0
    have q6 : (0 : Int) ≤ ((zI z3 2)).toInt ∧ ((zI z3 2)).toInt ≤ 40 := (h_z3).1 2
    have q7 : ((zI z3 2)).toInt = ((zI s0 2)).toInt := congrArg Int32.toInt (fr_z3.1 2 rfl)
    have q8 : (0 : Int) ≤ ((zI s0 2)).toInt ∧ ((zI s0 2)).toInt ≤ 40 := (h_s0).1 2
    have q9 := li_1
    have q10 := tsub (zI z3 2) (1 : Int32) (by omega) (by omega)
    have q11 : ((zI z3 9)).toInt ≤ (((zI z3 2) - (1 : Int32))).toInt := w3_1
    refine zok_f (by decide) ?_
    refine zok_ck (show vp_in (zI z3 9) 40 from vin (by omega) (by omega)) ?_
    have q12 : (0 : Int) ≤ (((zA s0 3) (Int32.toNatClampNeg (zI z3 9)))).toInt ∧ (((zA s0 3) (Int32.toNatClampNeg (zI z3 9)))).toInt ≤ 39 := (h_s0).2 3 _
    exact zok_some ⟨(show (-1 : Int) ≤ (((zA s0 3) (Int32.toNatClampNeg (zI z3 9)))).toInt ∧ (((zA s0 3) (Int32.toNatClampNeg (zI z3 9)))).toInt ≤ 39 from ⟨by omega, by omega⟩), (IS.mg [3] h_z3 (IS.pI 9 ((-1) : Int32) h_s0 (show (-1 : Int) ≤ (((-1) : Int32)).toInt ∧ (((-1) : Int32)).toInt ≤ 40 from ⟨by omega, by omega⟩))), (Fr.mg (Fr.tr fr_z3 (Fr.pI g_s0 rfl) rfl rfl) (Fr.pI g_s0 rfl))⟩
theorem t_Creeps_firstThatCant (N : Nat) (hN : 50000000 ≤ N) (s0 : zSt) (h_s0 : I_Creeps s0) : zok (Creeps_firstThatCant N s0) (fun z => ((-1 : Int) ≤ (z.1).toInt ∧ (z.1).toInt ≤ 39) ∧ I_Creeps z.2 ∧ Fr [9] [7] z.2 s0) :=
  t_Creeps_firstThatCant_b0 N hN s0 s0 h_s0 ⟨fun _ _ => rfl, fun _ _ => rfl⟩
theorem t_Math_abs_b0 (N : Nat) (hN : 50000000 ≤ N) (v0 : Int32) (h_v0 : (-99 : Int) ≤ (v0).toInt ∧ (v0).toInt ≤ 99) : zok (Math_abs_b0 N v0) (fun z => ((0 : Int) ≤ (z).toInt ∧ (z).toInt ≤ 99)) := by
  rw [Math_abs_b0]
  have q2 := li_0
  refine zok_ite (fun c1 => ?_) (fun c1 => ?_)
  · have q3 : ((0 : Int32)).toInt ≤ (v0).toInt := tle c1
    exact zok_some (show (0 : Int) ≤ (v0).toInt ∧ (v0).toInt ≤ 99 from ⟨by omega, by omega⟩)
  · have q4 : ((0 : Int32)).toInt > (v0).toInt := tnle c1
    have q5 := tneg v0 (by omega) (by omega)
    exact zok_some (show (0 : Int) ≤ ((-v0)).toInt ∧ ((-v0)).toInt ≤ 99 from ⟨by omega, by omega⟩)
theorem t_Math_abs (N : Nat) (hN : 50000000 ≤ N) (v0 : Int32) (h_v0 : (-99 : Int) ≤ (v0).toInt ∧ (v0).toInt ≤ 99) : zok (Math_abs N v0) (fun z => ((0 : Int) ≤ (z).toInt ∧ (z).toInt ≤ 99)) :=
  t_Math_abs_b0 N hN v0  h_v0 
theorem t_Dealer_hasLoud_b31 (N : Nat) (hN : 50000000 ≤ N) (kh3 : Int32 → Option (Int32)) (m3 : Int) (s0 : zSt) (n1 : Nat) (f1 : Nat → Int32) (v1 : Int32) (v2 : Int32) (v3 : Int32) (v5 : Int32) (hkh3 : ∀ (v5 : Int32), (0 : Int) ≤ (v5).toInt ∧ (v5).toInt ≤ 7 → 8 - (v5).toInt ≤ m3 - 1 → zok (kh3 v5) (fun z => ((0 : Int) ≤ (z).toInt ∧ (z).toInt ≤ 1))) (h_s0 : I_Dealer s0) (h_s0_0 : (1 : Int) ≤ (zI s0 0).toInt ∧ (zI s0 0).toInt ≤ 8) (h_s0_1 : (2 : Int) ≤ (zI s0 1).toInt ∧ (zI s0 1).toInt ≤ 2) (h_n1 : n1 = 8) (h_v1 : (-99 : Int) ≤ (v1).toInt ∧ (v1).toInt ≤ 198) (h_v2 : (1 : Int) ≤ (v2).toInt ∧ (v2).toInt ≤ 7) (h_v3 : (0 : Int) ≤ (v3).toInt ∧ (v3).toInt ≤ 7) (h_v5 : (0 : Int) ≤ (v5).toInt ∧ (v5).toInt ≤ 6) (hm3 : 8 - (v5).toInt ≤ m3) : zok (Dealer_hasLoud_b31 N kh3 s0 n1 f1 v1 v2 v3 v5) (fun z => ((0 : Int) ≤ (z).toInt ∧ (z).toInt ≤ 1)) := by
  rw [Dealer_hasLoud_b31]
  have q1 := li_1
  have q2 := tadd v5 (1 : Int32) (by omega) (by omega)
  exact hkh3 _ (show (0 : Int) ≤ ((v5 + (1 : Int32))).toInt ∧ ((v5 + (1 : Int32))).toInt ≤ 7 from ⟨by omega, by omega⟩) (show 8 - ((v5 + (1 : Int32))).toInt ≤ m3 - 1 by omega)
theorem t_Dealer_hasLoud_b3 (N : Nat) (hN : 50000000 ≤ N) (kh3 : Int32 → Option (Int32)) (m3 : Int) (s0 : zSt) (n1 : Nat) (f1 : Nat → Int32) (v1 : Int32) (v2 : Int32) (v3 : Int32) (v5 : Int32) (hkh3 : ∀ (v5 : Int32), (0 : Int) ≤ (v5).toInt ∧ (v5).toInt ≤ 7 → 8 - (v5).toInt ≤ m3 - 1 → zok (kh3 v5) (fun z => ((0 : Int) ≤ (z).toInt ∧ (z).toInt ≤ 1))) (h_s0 : I_Dealer s0) (h_s0_0 : (1 : Int) ≤ (zI s0 0).toInt ∧ (zI s0 0).toInt ≤ 8) (h_s0_1 : (2 : Int) ≤ (zI s0 1).toInt ∧ (zI s0 1).toInt ≤ 2) (h_n1 : n1 = 8) (h_v1 : (-99 : Int) ≤ (v1).toInt ∧ (v1).toInt ≤ 198) (h_v2 : (1 : Int) ≤ (v2).toInt ∧ (v2).toInt ≤ 7) (h_v3 : (0 : Int) ≤ (v3).toInt ∧ (v3).toInt ≤ 7) (h_v5 : (0 : Int) ≤ (v5).toInt ∧ (v5).toInt ≤ 7) (hm3 : 8 - (v5).toInt ≤ m3) : zok (Dealer_hasLoud_b3 N kh3 s0 n1 f1 v1 v2 v3 v5) (fun z => ((0 : Int) ≤ (z).toInt ∧ (z).toInt ≤ 1)) := by
  rw [Dealer_hasLoud_b3]
  refine zok_ite (fun c1 => ?_) (fun c1 => ?_)
  · have q2 : (v2).toInt ≤ (v5).toInt := tle c1
    have q3 := li_0
    exact zok_some (show (0 : Int) ≤ ((0 : Int32)).toInt ∧ ((0 : Int32)).toInt ≤ 1 from ⟨by omega, by omega⟩)
  · have q4 : (v2).toInt > (v5).toInt := tnle c1
    refine zok_ck (show vp_in v5 n1 from vin (by omega) (by omega)) ?_
    have q6 := tr (f1 (Int32.toNatClampNeg v5))
    refine zok_ite (fun c5 => ?_) (fun c5 => ?_)
    · have q7 : ((f1 (Int32.toNatClampNeg v5))).toInt = (v3).toInt := teq c5
      refine zok_ck (show vp_in v5 8 from vin (by omega) (by omega)) ?_
      have q9 : (0 : Int) ≤ (((zA s0 2) (Int32.toNatClampNeg v5))).toInt ∧ (((zA s0 2) (Int32.toNatClampNeg v5))).toInt ≤ 99 := (h_s0).2 2 _
      refine zok_ite (fun c8 => ?_) (fun c8 => ?_)
      · have q10 : (((zA s0 2) (Int32.toNatClampNeg v5))).toInt = (v1).toInt := teq c8
        have q11 := li_1
        exact zok_some (show (0 : Int) ≤ ((1 : Int32)).toInt ∧ ((1 : Int32)).toInt ≤ 1 from ⟨by omega, by omega⟩)
      · have q12 : (((zA s0 2) (Int32.toNatClampNeg v5))).toInt ≠ (v1).toInt := tneq c8
        have q13 : (0 : Int) ≤ ((zI s0 0)).toInt ∧ ((zI s0 0)).toInt ≤ 8 := (h_s0).1 0
        have q14 : (0 : Int) ≤ ((zI s0 1)).toInt ∧ ((zI s0 1)).toInt ≤ 2 := (h_s0).1 1
        exact t_Dealer_hasLoud_b31 N hN kh3 m3 _ _ _ _ _ _ _  hkh3 h_s0 (show (1 : Int) ≤ ((zI s0 0)).toInt ∧ ((zI s0 0)).toInt ≤ 8 from ⟨by omega, by omega⟩) (show (2 : Int) ≤ ((zI s0 1)).toInt ∧ ((zI s0 1)).toInt ≤ 2 from ⟨by omega, by omega⟩) h_n1 (show (-99 : Int) ≤ (v1).toInt ∧ (v1).toInt ≤ 198 from ⟨by omega, by omega⟩) (show (1 : Int) ≤ (v2).toInt ∧ (v2).toInt ≤ 7 from ⟨by omega, by omega⟩) (show (0 : Int) ≤ (v3).toInt ∧ (v3).toInt ≤ 7 from ⟨by omega, by omega⟩) (show (0 : Int) ≤ (v5).toInt ∧ (v5).toInt ≤ 6 from ⟨by omega, by omega⟩) (show 8 - (v5).toInt ≤ m3 from by omega)
    · have q15 : ((f1 (Int32.toNatClampNeg v5))).toInt ≠ (v3).toInt := tneq c5
      have q16 : (0 : Int) ≤ ((zI s0 0)).toInt ∧ ((zI s0 0)).toInt ≤ 8 := (h_s0).1 0
      have q17 : (0 : Int) ≤ ((zI s0 1)).toInt ∧ ((zI s0 1)).toInt ≤ 2 := (h_s0).1 1
      exact t_Dealer_hasLoud_b31 N hN kh3 m3 _ _ _ _ _ _ _  hkh3 h_s0 (show (1 : Int) ≤ ((zI s0 0)).toInt ∧ ((zI s0 0)).toInt ≤ 8 from ⟨by omega, by omega⟩) (show (2 : Int) ≤ ((zI s0 1)).toInt ∧ ((zI s0 1)).toInt ≤ 2 from ⟨by omega, by omega⟩) h_n1 (show (-99 : Int) ≤ (v1).toInt ∧ (v1).toInt ≤ 198 from ⟨by omega, by omega⟩) (show (1 : Int) ≤ (v2).toInt ∧ (v2).toInt ≤ 7 from ⟨by omega, by omega⟩) (show (0 : Int) ≤ (v3).toInt ∧ (v3).toInt ≤ 7 from ⟨by omega, by omega⟩) (show (0 : Int) ≤ (v5).toInt ∧ (v5).toInt ≤ 6 from ⟨by omega, by omega⟩) (show 8 - (v5).toInt ≤ m3 from by omega)
theorem t_Dealer_hasLoud_h3 (N : Nat) (hN : 50000000 ≤ N) (s0 : zSt) (n1 : Nat) (f1 : (Nat → Int32)) (v1 : Int32) (v2 : Int32) (v3 : Int32) (h_s0 : I_Dealer s0) (h_s0_0 : (1 : Int) ≤ (zI s0 0).toInt ∧ (zI s0 0).toInt ≤ 8) (h_s0_1 : (2 : Int) ≤ (zI s0 1).toInt ∧ (zI s0 1).toInt ≤ 2) (h_n1 : n1 = 8) (h_v1 : (-99 : Int) ≤ (v1).toInt ∧ (v1).toInt ≤ 198) (h_v2 : (1 : Int) ≤ (v2).toInt ∧ (v2).toInt ≤ 7) (h_v3 : (0 : Int) ≤ (v3).toInt ∧ (v3).toInt ≤ 7) : ∀ (n : Nat) (v5 : Int32), (0 : Int) ≤ (v5).toInt ∧ (v5).toInt ≤ 7 → 8 - (v5).toInt ≤ (n : Int) → zok (Dealer_hasLoud_h3 N s0 n1 f1 v1 v2 v3 n v5) (fun z => ((0 : Int) ≤ (z).toInt ∧ (z).toInt ≤ 1))
  | 0, v5, h_v5, hm => absurd hm (by omega)
  | n + 1, v5, h_v5, hm => by
    rw [Dealer_hasLoud_h3_s]
    exact t_Dealer_hasLoud_b3 N hN (Dealer_hasLoud_h3 N s0 n1 f1 v1 v2 v3 n) ((n + 1 : Nat) : Int) s0 n1 f1 v1 v2 v3 v5  (fun v5 h_v5 q => t_Dealer_hasLoud_h3 N hN  s0 n1 f1 v1 v2 v3   h_s0 h_s0_0 h_s0_1 h_n1 h_v1 h_v2 h_v3   n v5 h_v5 (by omega)) h_s0 h_s0_0 h_s0_1 h_n1 h_v1 h_v2 h_v3 h_v5  hm
theorem t_Dealer_hasLoud_b0 (N : Nat) (hN : 50000000 ≤ N) (s0 : zSt) (n1 : Nat) (f1 : Nat → Int32) (v1 : Int32) (v2 : Int32) (v3 : Int32) (h_s0 : I_Dealer s0) (h_s0_0 : (1 : Int) ≤ (zI s0 0).toInt ∧ (zI s0 0).toInt ≤ 8) (h_s0_1 : (2 : Int) ≤ (zI s0 1).toInt ∧ (zI s0 1).toInt ≤ 2) (h_n1 : n1 = 8) (h_v1 : (-99 : Int) ≤ (v1).toInt ∧ (v1).toInt ≤ 198) (h_v2 : (1 : Int) ≤ (v2).toInt ∧ (v2).toInt ≤ 7) (h_v3 : (0 : Int) ≤ (v3).toInt ∧ (v3).toInt ≤ 7) : zok (Dealer_hasLoud_b0 N s0 n1 f1 v1 v2 v3) (fun z => ((0 : Int) ≤ (z).toInt ∧ (z).toInt ≤ 1)) := by
  rw [Dealer_hasLoud_b0]
  have q1 : (0 : Int) ≤ ((zI s0 0)).toInt ∧ ((zI s0 0)).toInt ≤ 8 := (h_s0).1 0
  have q2 : (0 : Int) ≤ ((zI s0 1)).toInt ∧ ((zI s0 1)).toInt ≤ 2 := (h_s0).1 1
  have q3 := li_0
  exact t_Dealer_hasLoud_h3 N hN  _ _ _ _ _ _   h_s0 (show (1 : Int) ≤ ((zI s0 0)).toInt ∧ ((zI s0 0)).toInt ≤ 8 from ⟨by omega, by omega⟩) (show (2 : Int) ≤ ((zI s0 1)).toInt ∧ ((zI s0 1)).toInt ≤ 2 from ⟨by omega, by omega⟩) h_n1 (show (-99 : Int) ≤ (v1).toInt ∧ (v1).toInt ≤ 198 from ⟨by omega, by omega⟩) (show (1 : Int) ≤ (v2).toInt ∧ (v2).toInt ≤ 7 from ⟨by omega, by omega⟩) (show (0 : Int) ≤ (v3).toInt ∧ (v3).toInt ≤ 7 from ⟨by omega, by omega⟩)  N _ (show (0 : Int) ≤ ((0 : Int32)).toInt ∧ ((0 : Int32)).toInt ≤ 7 from ⟨by omega, by omega⟩) (show 8 - ((0 : Int32)).toInt ≤ (N : Int) from by omega)
theorem t_Dealer_hasLoud (N : Nat) (hN : 50000000 ≤ N) (s0 : zSt) (n1 : Nat) (f1 : Nat → Int32) (v1 : Int32) (v2 : Int32) (v3 : Int32) (h_s0 : I_Dealer s0) (h_s0_0 : (1 : Int) ≤ (zI s0 0).toInt ∧ (zI s0 0).toInt ≤ 8) (h_s0_1 : (2 : Int) ≤ (zI s0 1).toInt ∧ (zI s0 1).toInt ≤ 2) (h_n1 : n1 = 8) (h_v1 : (-99 : Int) ≤ (v1).toInt ∧ (v1).toInt ≤ 198) (h_v2 : (1 : Int) ≤ (v2).toInt ∧ (v2).toInt ≤ 7) (h_v3 : (0 : Int) ≤ (v3).toInt ∧ (v3).toInt ≤ 7) : zok (Dealer_hasLoud N s0 n1 f1 v1 v2 v3) (fun z => ((0 : Int) ≤ (z).toInt ∧ (z).toInt ≤ 1)) :=
  t_Dealer_hasLoud_b0 N hN s0 n1 f1 v1 v2 v3  h_s0 h_s0_0 h_s0_1 h_n1 h_v1 h_v2 h_v3 
theorem t_Dealer_twoAreKnown_b109 (N : Nat) (hN : 50000000 ≤ N) (kh11 : Int32 → Option (Int32)) (m11 : Int) (kh20 : Int32 → Option (Int32)) (m20 : Int) (s0 : zSt) (n1 : Nat) (f1 : Nat → Int32) (v1 : Int32) (v2 : Int32) (v4 : Int32) (v5 : Int32) (v6 : Int32) (hkh11 : ∀ (v5 : Int32), (0 : Int) ≤ (v5).toInt ∧ (v5).toInt ≤ 7 → 8 - (v5).toInt ≤ m11 - 1 → zok (kh11 v5) (fun z => ((0 : Int) ≤ (z).toInt ∧ (z).toInt ≤ 1))) (hkh20 : ∀ (v6 : Int32), (0 : Int) ≤ (v6).toInt ∧ (v6).toInt ≤ 6 → 7 - (v6).toInt ≤ m20 - 1 → zok (kh20 v6) (fun z => ((0 : Int) ≤ (z).toInt ∧ (z).toInt ≤ 1))) (h_s0 : I_Dealer s0) (h_s0_0 : (1 : Int) ≤ (zI s0 0).toInt ∧ (zI s0 0).toInt ≤ 8) (h_s0_1 : (2 : Int) ≤ (zI s0 1).toInt ∧ (zI s0 1).toInt ≤ 2) (h_n1 : n1 = 8) (h_v1 : (1 : Int) ≤ (v1).toInt ∧ (v1).toInt ≤ 7) (h_v2 : (0 : Int) ≤ (v2).toInt ∧ (v2).toInt ≤ 7) (h_v4 : (0 : Int) ≤ (v4).toInt ∧ (v4).toInt ≤ 99) (h_v5 : (1 : Int) ≤ (v5).toInt ∧ (v5).toInt ≤ 6) (h_v6 : (0 : Int) ≤ (v6).toInt ∧ (v6).toInt ≤ 5) (hm11 : 8 - (v5).toInt ≤ m11) (hm20 : 7 - (v6).toInt ≤ m20) : zok (Dealer_twoAreKnown_b109 N kh11 kh20 s0 n1 f1 v1 v2 v4 v5 v6) (fun z => ((0 : Int) ≤ (z).toInt ∧ (z).toInt ≤ 1)) := by
  rw [Dealer_twoAreKnown_b109]
  have q1 := li_1
  have q2 := tadd v6 (1 : Int32) (by omega) (by omega)
  exact hkh20 _ (show (0 : Int) ≤ ((v6 + (1 : Int32))).toInt ∧ ((v6 + (1 : Int32))).toInt ≤ 6 from ⟨by omega, by omega⟩) (show 7 - ((v6 + (1 : Int32))).toInt ≤ m20 - 1 by omega)
theorem t_Dealer_twoAreKnown_b20 (N : Nat) (hN : 50000000 ≤ N) (kh11 : Int32 → Option (Int32)) (m11 : Int) (kh20 : Int32 → Option (Int32)) (m20 : Int) (s0 : zSt) (n1 : Nat) (f1 : Nat → Int32) (v1 : Int32) (v2 : Int32) (v4 : Int32) (v5 : Int32) (v6 : Int32) (hkh11 : ∀ (v5 : Int32), (0 : Int) ≤ (v5).toInt ∧ (v5).toInt ≤ 7 → 8 - (v5).toInt ≤ m11 - 1 → zok (kh11 v5) (fun z => ((0 : Int) ≤ (z).toInt ∧ (z).toInt ≤ 1))) (hkh20 : ∀ (v6 : Int32), (0 : Int) ≤ (v6).toInt ∧ (v6).toInt ≤ 6 → 7 - (v6).toInt ≤ m20 - 1 → zok (kh20 v6) (fun z => ((0 : Int) ≤ (z).toInt ∧ (z).toInt ≤ 1))) (h_s0 : I_Dealer s0) (h_s0_0 : (1 : Int) ≤ (zI s0 0).toInt ∧ (zI s0 0).toInt ≤ 8) (h_s0_1 : (2 : Int) ≤ (zI s0 1).toInt ∧ (zI s0 1).toInt ≤ 2) (h_n1 : n1 = 8) (h_v1 : (1 : Int) ≤ (v1).toInt ∧ (v1).toInt ≤ 7) (h_v2 : (0 : Int) ≤ (v2).toInt ∧ (v2).toInt ≤ 7) (h_v4 : (0 : Int) ≤ (v4).toInt ∧ (v4).toInt ≤ 99) (h_v5 : (0 : Int) ≤ (v5).toInt ∧ (v5).toInt ≤ 6) (h_v6 : (0 : Int) ≤ (v6).toInt ∧ (v6).toInt ≤ 6) (hm11 : 8 - (v5).toInt ≤ m11) (hm20 : 7 - (v6).toInt ≤ m20) : zok (Dealer_twoAreKnown_b20 N kh11 kh20 s0 n1 f1 v1 v2 v4 v5 v6) (fun z => ((0 : Int) ≤ (z).toInt ∧ (z).toInt ≤ 1)) := by
  rw [Dealer_twoAreKnown_b20]
  refine zok_ite (fun c1 => ?_) (fun c1 => ?_)
  · have q2 : (v5).toInt ≤ (v6).toInt := tle c1
    have q3 := li_1
    have q4 := tadd v5 (1 : Int32) (by omega) (by omega)
    exact hkh11 _ (show (0 : Int) ≤ ((v5 + (1 : Int32))).toInt ∧ ((v5 + (1 : Int32))).toInt ≤ 7 from ⟨by omega, by omega⟩) (show 8 - ((v5 + (1 : Int32))).toInt ≤ m11 - 1 by omega)
  · have q5 : (v5).toInt > (v6).toInt := tnle c1
    refine zok_ck (show vp_in v5 n1 from vin (by omega) (by omega)) ?_
    have q7 := tr (f1 (Int32.toNatClampNeg v5))
    refine zok_ite (fun c6 => ?_) (fun c6 => ?_)
    · have q8 : ((f1 (Int32.toNatClampNeg v5))).toInt = (v2).toInt := teq c6
      refine zok_ck (show vp_in v6 n1 from vin (by omega) (by omega)) ?_
      have q10 := tr (f1 (Int32.toNatClampNeg v6))
      refine zok_ite (fun c9 => ?_) (fun c9 => ?_)
      · have q11 : ((f1 (Int32.toNatClampNeg v6))).toInt = (v2).toInt := teq c9
        refine zok_ck (show vp_in v5 8 from vin (by omega) (by omega)) ?_
        refine zok_ck (show vp_in v6 8 from vin (by omega) (by omega)) ?_
        have q13 : (0 : Int) ≤ (((zA s0 2) (Int32.toNatClampNeg v5))).toInt ∧ (((zA s0 2) (Int32.toNatClampNeg v5))).toInt ≤ 99 := (h_s0).2 2 _
        have q14 : (0 : Int) ≤ (((zA s0 2) (Int32.toNatClampNeg v6))).toInt ∧ (((zA s0 2) (Int32.toNatClampNeg v6))).toInt ≤ 99 := (h_s0).2 2 _
        have q15 := tadd ((zA s0 2) (Int32.toNatClampNeg v5)) ((zA s0 2) (Int32.toNatClampNeg v6)) (by omega) (by omega)
        refine zok_ite (fun c12 => ?_) (fun c12 => ?_)
        · have q16 : ((((zA s0 2) (Int32.toNatClampNeg v5)) + ((zA s0 2) (Int32.toNatClampNeg v6)))).toInt = (v4).toInt := teq c12
          have q17 := li_0
          exact zok_some (show (0 : Int) ≤ ((0 : Int32)).toInt ∧ ((0 : Int32)).toInt ≤ 1 from ⟨by omega, by omega⟩)
        · have q18 : ((((zA s0 2) (Int32.toNatClampNeg v5)) + ((zA s0 2) (Int32.toNatClampNeg v6)))).toInt ≠ (v4).toInt := tneq c12
          refine zok_ck (show vp_in v5 8 from vin (by omega) (by omega)) ?_
          refine zok_ck (show vp_in v6 8 from vin (by omega) (by omega)) ?_
          have q19 := tsub ((zA s0 2) (Int32.toNatClampNeg v5)) ((zA s0 2) (Int32.toNatClampNeg v6)) (by omega) (by omega)
          refine zok_bind (t_Math_abs N hN (((zA s0 2) (Int32.toNatClampNeg v5)) - ((zA s0 2) (Int32.toNatClampNeg v6))) (show (-99 : Int) ≤ ((((zA s0 2) (Int32.toNatClampNeg v5)) - ((zA s0 2) (Int32.toNatClampNeg v6)))).toInt ∧ ((((zA s0 2) (Int32.toNatClampNeg v5)) - ((zA s0 2) (Int32.toNatClampNeg v6)))).toInt ≤ 99 from ⟨by omega, by omega⟩)) (fun z11 hz11 => ?_)
          have h_z11 := hz11
          refine zok_ite (fun c20 => ?_) (fun c20 => ?_)
          · have q21 : (z11).toInt = (v4).toInt := teq c20
            have q22 := li_0
            exact zok_some (show (0 : Int) ≤ ((0 : Int32)).toInt ∧ ((0 : Int32)).toInt ≤ 1 from ⟨by omega, by omega⟩)
          · have q23 : (z11).toInt ≠ (v4).toInt := tneq c20
            have q24 : (0 : Int) ≤ ((zI s0 0)).toInt ∧ ((zI s0 0)).toInt ≤ 8 := (h_s0).1 0
            have q25 : (0 : Int) ≤ ((zI s0 1)).toInt ∧ ((zI s0 1)).toInt ≤ 2 := (h_s0).1 1
            have q26 := tsub (((zA s0 2) (Int32.toNatClampNeg v5)) + ((zA s0 2) (Int32.toNatClampNeg v6))) v4 (by omega) (by omega)
            refine zok_bind (t_Dealer_hasLoud N hN s0 n1 f1 ((((zA s0 2) (Int32.toNatClampNeg v5)) + ((zA s0 2) (Int32.toNatClampNeg v6))) - v4) v1 v2 h_s0 (show (1 : Int) ≤ ((zI s0 0)).toInt ∧ ((zI s0 0)).toInt ≤ 8 from ⟨by omega, by omega⟩) (show (2 : Int) ≤ ((zI s0 1)).toInt ∧ ((zI s0 1)).toInt ≤ 2 from ⟨by omega, by omega⟩) h_n1 (show (-99 : Int) ≤ (((((zA s0 2) (Int32.toNatClampNeg v5)) + ((zA s0 2) (Int32.toNatClampNeg v6))) - v4)).toInt ∧ (((((zA s0 2) (Int32.toNatClampNeg v5)) + ((zA s0 2) (Int32.toNatClampNeg v6))) - v4)).toInt ≤ 198 from ⟨by omega, by omega⟩) (show (1 : Int) ≤ (v1).toInt ∧ (v1).toInt ≤ 7 from ⟨by omega, by omega⟩) (show (0 : Int) ≤ (v2).toInt ∧ (v2).toInt ≤ 7 from ⟨by omega, by omega⟩)) (fun z14 hz14 => ?_)
            have h_z14 := hz14
            have q28 := li_0
            refine zok_ite (fun c27 => ?_) (fun c27 => ?_)
            · have q29 : (z14).toInt = ((0 : Int32)).toInt := teq c27
              exact t_Dealer_twoAreKnown_b109 N hN kh11 m11 kh20 m20 _ _ _ _ _ _ _ _  hkh11 hkh20 h_s0 (show (1 : Int) ≤ ((zI s0 0)).toInt ∧ ((zI s0 0)).toInt ≤ 8 from ⟨by omega, by omega⟩) (show (2 : Int) ≤ ((zI s0 1)).toInt ∧ ((zI s0 1)).toInt ≤ 2 from ⟨by omega, by omega⟩) h_n1 (show (1 : Int) ≤ (v1).toInt ∧ (v1).toInt ≤ 7 from ⟨by omega, by omega⟩) (show (0 : Int) ≤ (v2).toInt ∧ (v2).toInt ≤ 7 from ⟨by omega, by omega⟩) (show (0 : Int) ≤ (v4).toInt ∧ (v4).toInt ≤ 99 from ⟨by omega, by omega⟩) (show (1 : Int) ≤ (v5).toInt ∧ (v5).toInt ≤ 6 from ⟨by omega, by omega⟩) (show (0 : Int) ≤ (v6).toInt ∧ (v6).toInt ≤ 5 from ⟨by omega, by omega⟩) (show 8 - (v5).toInt ≤ m11 from by omega) (show 7 - (v6).toInt ≤ m20 from by omega)
            · have q30 : (z14).toInt ≠ ((0 : Int32)).toInt := tneq c27
              exact zok_some (show (0 : Int) ≤ ((0 : Int32)).toInt ∧ ((0 : Int32)).toInt ≤ 1 from ⟨by omega, by omega⟩)
      · have q31 : ((f1 (Int32.toNatClampNeg v6))).toInt ≠ (v2).toInt := tneq c9
        have q32 : (0 : Int) ≤ ((zI s0 0)).toInt ∧ ((zI s0 0)).toInt ≤ 8 := (h_s0).1 0
        have q33 : (0 : Int) ≤ ((zI s0 1)).toInt ∧ ((zI s0 1)).toInt ≤ 2 := (h_s0).1 1
        exact t_Dealer_twoAreKnown_b109 N hN kh11 m11 kh20 m20 _ _ _ _ _ _ _ _  hkh11 hkh20 h_s0 (show (1 : Int) ≤ ((zI s0 0)).toInt ∧ ((zI s0 0)).toInt ≤ 8 from ⟨by omega, by omega⟩) (show (2 : Int) ≤ ((zI s0 1)).toInt ∧ ((zI s0 1)).toInt ≤ 2 from ⟨by omega, by omega⟩) h_n1 (show (1 : Int) ≤ (v1).toInt ∧ (v1).toInt ≤ 7 from ⟨by omega, by omega⟩) (show (0 : Int) ≤ (v2).toInt ∧ (v2).toInt ≤ 7 from ⟨by omega, by omega⟩) (show (0 : Int) ≤ (v4).toInt ∧ (v4).toInt ≤ 99 from ⟨by omega, by omega⟩) (show (1 : Int) ≤ (v5).toInt ∧ (v5).toInt ≤ 6 from ⟨by omega, by omega⟩) (show (0 : Int) ≤ (v6).toInt ∧ (v6).toInt ≤ 5 from ⟨by omega, by omega⟩) (show 8 - (v5).toInt ≤ m11 from by omega) (show 7 - (v6).toInt ≤ m20 from by omega)
    · have q34 : ((f1 (Int32.toNatClampNeg v5))).toInt ≠ (v2).toInt := tneq c6
      have q35 : (0 : Int) ≤ ((zI s0 0)).toInt ∧ ((zI s0 0)).toInt ≤ 8 := (h_s0).1 0
      have q36 : (0 : Int) ≤ ((zI s0 1)).toInt ∧ ((zI s0 1)).toInt ≤ 2 := (h_s0).1 1
      exact t_Dealer_twoAreKnown_b109 N hN kh11 m11 kh20 m20 _ _ _ _ _ _ _ _  hkh11 hkh20 h_s0 (show (1 : Int) ≤ ((zI s0 0)).toInt ∧ ((zI s0 0)).toInt ≤ 8 from ⟨by omega, by omega⟩) (show (2 : Int) ≤ ((zI s0 1)).toInt ∧ ((zI s0 1)).toInt ≤ 2 from ⟨by omega, by omega⟩) h_n1 (show (1 : Int) ≤ (v1).toInt ∧ (v1).toInt ≤ 7 from ⟨by omega, by omega⟩) (show (0 : Int) ≤ (v2).toInt ∧ (v2).toInt ≤ 7 from ⟨by omega, by omega⟩) (show (0 : Int) ≤ (v4).toInt ∧ (v4).toInt ≤ 99 from ⟨by omega, by omega⟩) (show (1 : Int) ≤ (v5).toInt ∧ (v5).toInt ≤ 6 from ⟨by omega, by omega⟩) (show (0 : Int) ≤ (v6).toInt ∧ (v6).toInt ≤ 5 from ⟨by omega, by omega⟩) (show 8 - (v5).toInt ≤ m11 from by omega) (show 7 - (v6).toInt ≤ m20 from by omega)
theorem t_Dealer_twoAreKnown_h20 (N : Nat) (hN : 50000000 ≤ N) (kh11 : Int32 → Option (Int32)) (m11 : Int) (s0 : zSt) (n1 : Nat) (f1 : (Nat → Int32)) (v1 : Int32) (v2 : Int32) (v4 : Int32) (v5 : Int32) (hkh11 : ∀ (v5 : Int32), (0 : Int) ≤ (v5).toInt ∧ (v5).toInt ≤ 7 → 8 - (v5).toInt ≤ m11 - 1 → zok (kh11 v5) (fun z => ((0 : Int) ≤ (z).toInt ∧ (z).toInt ≤ 1))) (h_s0 : I_Dealer s0) (h_s0_0 : (1 : Int) ≤ (zI s0 0).toInt ∧ (zI s0 0).toInt ≤ 8) (h_s0_1 : (2 : Int) ≤ (zI s0 1).toInt ∧ (zI s0 1).toInt ≤ 2) (h_n1 : n1 = 8) (h_v1 : (1 : Int) ≤ (v1).toInt ∧ (v1).toInt ≤ 7) (h_v2 : (0 : Int) ≤ (v2).toInt ∧ (v2).toInt ≤ 7) (h_v4 : (0 : Int) ≤ (v4).toInt ∧ (v4).toInt ≤ 99) (h_v5 : (0 : Int) ≤ (v5).toInt ∧ (v5).toInt ≤ 6) (hm11 : 8 - (v5).toInt ≤ m11) : ∀ (n : Nat) (v6 : Int32), (0 : Int) ≤ (v6).toInt ∧ (v6).toInt ≤ 6 → 7 - (v6).toInt ≤ (n : Int) → zok (Dealer_twoAreKnown_h20 N kh11 s0 n1 f1 v1 v2 v4 v5 n v6) (fun z => ((0 : Int) ≤ (z).toInt ∧ (z).toInt ≤ 1))
  | 0, v6, h_v6, hm => absurd hm (by omega)
  | n + 1, v6, h_v6, hm => by
    rw [Dealer_twoAreKnown_h20_s]
    exact t_Dealer_twoAreKnown_b20 N hN kh11 m11 (Dealer_twoAreKnown_h20 N kh11 s0 n1 f1 v1 v2 v4 v5 n) ((n + 1 : Nat) : Int) s0 n1 f1 v1 v2 v4 v5 v6  hkh11 (fun v6 h_v6 q => t_Dealer_twoAreKnown_h20 N hN kh11 m11 s0 n1 f1 v1 v2 v4 v5  hkh11 h_s0 h_s0_0 h_s0_1 h_n1 h_v1 h_v2 h_v4 h_v5  hm11 n v6 h_v6 (by omega)) h_s0 h_s0_0 h_s0_1 h_n1 h_v1 h_v2 h_v4 h_v5 h_v6  hm11 hm
theorem t_Dealer_twoAreKnown_b11 (N : Nat) (hN : 50000000 ≤ N) (kh11 : Int32 → Option (Int32)) (m11 : Int) (s0 : zSt) (n1 : Nat) (f1 : Nat → Int32) (v1 : Int32) (v2 : Int32) (v4 : Int32) (v5 : Int32) (hkh11 : ∀ (v5 : Int32), (0 : Int) ≤ (v5).toInt ∧ (v5).toInt ≤ 7 → 8 - (v5).toInt ≤ m11 - 1 → zok (kh11 v5) (fun z => ((0 : Int) ≤ (z).toInt ∧ (z).toInt ≤ 1))) (h_s0 : I_Dealer s0) (h_s0_0 : (1 : Int) ≤ (zI s0 0).toInt ∧ (zI s0 0).toInt ≤ 8) (h_s0_1 : (2 : Int) ≤ (zI s0 1).toInt ∧ (zI s0 1).toInt ≤ 2) (h_n1 : n1 = 8) (h_v1 : (0 : Int) ≤ (v1).toInt ∧ (v1).toInt ≤ 7) (h_v2 : (0 : Int) ≤ (v2).toInt ∧ (v2).toInt ≤ 7) (h_v4 : (0 : Int) ≤ (v4).toInt ∧ (v4).toInt ≤ 99) (h_v5 : (0 : Int) ≤ (v5).toInt ∧ (v5).toInt ≤ 7) (hm11 : 8 - (v5).toInt ≤ m11) : zok (Dealer_twoAreKnown_b11 N kh11 s0 n1 f1 v1 v2 v4 v5) (fun z => ((0 : Int) ≤ (z).toInt ∧ (z).toInt ≤ 1)) := by
  rw [Dealer_twoAreKnown_b11]
  refine zok_ite (fun c1 => ?_) (fun c1 => ?_)
  · have q2 : (v1).toInt ≤ (v5).toInt := tle c1
    have q3 := li_1
    exact zok_some (show (0 : Int) ≤ ((1 : Int32)).toInt ∧ ((1 : Int32)).toInt ≤ 1 from ⟨by omega, by omega⟩)
  · have q4 : (v1).toInt > (v5).toInt := tnle c1
    have q5 : (0 : Int) ≤ ((zI s0 0)).toInt ∧ ((zI s0 0)).toInt ≤ 8 := (h_s0).1 0
    have q6 : (0 : Int) ≤ ((zI s0 1)).toInt ∧ ((zI s0 1)).toInt ≤ 2 := (h_s0).1 1
    have q7 := li_0
    exact t_Dealer_twoAreKnown_h20 N hN kh11 m11 _ _ _ _ _ _ _  hkh11 h_s0 (show (1 : Int) ≤ ((zI s0 0)).toInt ∧ ((zI s0 0)).toInt ≤ 8 from ⟨by omega, by omega⟩) (show (2 : Int) ≤ ((zI s0 1)).toInt ∧ ((zI s0 1)).toInt ≤ 2 from ⟨by omega, by omega⟩) h_n1 (show (1 : Int) ≤ (v1).toInt ∧ (v1).toInt ≤ 7 from ⟨by omega, by omega⟩) (show (0 : Int) ≤ (v2).toInt ∧ (v2).toInt ≤ 7 from ⟨by omega, by omega⟩) (show (0 : Int) ≤ (v4).toInt ∧ (v4).toInt ≤ 99 from ⟨by omega, by omega⟩) (show (0 : Int) ≤ (v5).toInt ∧ (v5).toInt ≤ 6 from ⟨by omega, by omega⟩) (show 8 - (v5).toInt ≤ m11 from by omega) N _ (show (0 : Int) ≤ ((0 : Int32)).toInt ∧ ((0 : Int32)).toInt ≤ 6 from ⟨by omega, by omega⟩) (show 7 - ((0 : Int32)).toInt ≤ (N : Int) from by omega)
theorem t_Dealer_twoAreKnown_h11 (N : Nat) (hN : 50000000 ≤ N) (s0 : zSt) (n1 : Nat) (f1 : (Nat → Int32)) (v1 : Int32) (v2 : Int32) (v4 : Int32) (h_s0 : I_Dealer s0) (h_s0_0 : (1 : Int) ≤ (zI s0 0).toInt ∧ (zI s0 0).toInt ≤ 8) (h_s0_1 : (2 : Int) ≤ (zI s0 1).toInt ∧ (zI s0 1).toInt ≤ 2) (h_n1 : n1 = 8) (h_v1 : (0 : Int) ≤ (v1).toInt ∧ (v1).toInt ≤ 7) (h_v2 : (0 : Int) ≤ (v2).toInt ∧ (v2).toInt ≤ 7) (h_v4 : (0 : Int) ≤ (v4).toInt ∧ (v4).toInt ≤ 99) : ∀ (n : Nat) (v5 : Int32), (0 : Int) ≤ (v5).toInt ∧ (v5).toInt ≤ 7 → 8 - (v5).toInt ≤ (n : Int) → zok (Dealer_twoAreKnown_h11 N s0 n1 f1 v1 v2 v4 n v5) (fun z => ((0 : Int) ≤ (z).toInt ∧ (z).toInt ≤ 1))
  | 0, v5, h_v5, hm => absurd hm (by omega)
  | n + 1, v5, h_v5, hm => by
    rw [Dealer_twoAreKnown_h11_s]
    exact t_Dealer_twoAreKnown_b11 N hN (Dealer_twoAreKnown_h11 N s0 n1 f1 v1 v2 v4 n) ((n + 1 : Nat) : Int) s0 n1 f1 v1 v2 v4 v5  (fun v5 h_v5 q => t_Dealer_twoAreKnown_h11 N hN  s0 n1 f1 v1 v2 v4   h_s0 h_s0_0 h_s0_1 h_n1 h_v1 h_v2 h_v4   n v5 h_v5 (by omega)) h_s0 h_s0_0 h_s0_1 h_n1 h_v1 h_v2 h_v4 h_v5  hm
theorem t_Dealer_twoAreKnown_b0 (N : Nat) (hN : 50000000 ≤ N) (s0 : zSt) (n1 : Nat) (f1 : Nat → Int32) (v1 : Int32) (v2 : Int32) (h_s0 : I_Dealer s0) (h_s0_0 : (1 : Int) ≤ (zI s0 0).toInt ∧ (zI s0 0).toInt ≤ 8) (h_s0_1 : (2 : Int) ≤ (zI s0 1).toInt ∧ (zI s0 1).toInt ≤ 2) (h_n1 : n1 = 8) (h_v1 : (0 : Int) ≤ (v1).toInt ∧ (v1).toInt ≤ 7) (h_v2 : (0 : Int) ≤ (v2).toInt ∧ (v2).toInt ≤ 7) : zok (Dealer_twoAreKnown_b0 N s0 n1 f1 v1 v2) (fun z => ((0 : Int) ≤ (z).toInt ∧ (z).toInt ≤ 1)) := by
  rw [Dealer_twoAreKnown_b0]
  refine zok_ck (show vp_in v1 8 from vin (by omega) (by omega)) ?_
  have q1 : (0 : Int) ≤ ((zI s0 0)).toInt ∧ ((zI s0 0)).toInt ≤ 8 := (h_s0).1 0
  have q2 : (0 : Int) ≤ ((zI s0 1)).toInt ∧ ((zI s0 1)).toInt ≤ 2 := (h_s0).1 1
  have q3 : (0 : Int) ≤ (((zA s0 2) (Int32.toNatClampNeg v1))).toInt ∧ (((zA s0 2) (Int32.toNatClampNeg v1))).toInt ≤ 99 := (h_s0).2 2 _
  have q4 := li_0
  exact t_Dealer_twoAreKnown_h11 N hN  _ _ _ _ _ _   h_s0 (show (1 : Int) ≤ ((zI s0 0)).toInt ∧ ((zI s0 0)).toInt ≤ 8 from ⟨by omega, by omega⟩) (show (2 : Int) ≤ ((zI s0 1)).toInt ∧ ((zI s0 1)).toInt ≤ 2 from ⟨by omega, by omega⟩) h_n1 (show (0 : Int) ≤ (v1).toInt ∧ (v1).toInt ≤ 7 from ⟨by omega, by omega⟩) (show (0 : Int) ≤ (v2).toInt ∧ (v2).toInt ≤ 7 from ⟨by omega, by omega⟩) (show (0 : Int) ≤ (((zA s0 2) (Int32.toNatClampNeg v1))).toInt ∧ (((zA s0 2) (Int32.toNatClampNeg v1))).toInt ≤ 99 from ⟨by omega, by omega⟩)  N _ (show (0 : Int) ≤ ((0 : Int32)).toInt ∧ ((0 : Int32)).toInt ≤ 7 from ⟨by omega, by omega⟩) (show 8 - ((0 : Int32)).toInt ≤ (N : Int) from by omega)
theorem t_Dealer_twoAreKnown (N : Nat) (hN : 50000000 ≤ N) (s0 : zSt) (n1 : Nat) (f1 : Nat → Int32) (v1 : Int32) (v2 : Int32) (h_s0 : I_Dealer s0) (h_s0_0 : (1 : Int) ≤ (zI s0 0).toInt ∧ (zI s0 0).toInt ≤ 8) (h_s0_1 : (2 : Int) ≤ (zI s0 1).toInt ∧ (zI s0 1).toInt ≤ 2) (h_n1 : n1 = 8) (h_v1 : (0 : Int) ≤ (v1).toInt ∧ (v1).toInt ≤ 7) (h_v2 : (0 : Int) ≤ (v2).toInt ∧ (v2).toInt ≤ 7) : zok (Dealer_twoAreKnown N s0 n1 f1 v1 v2) (fun z => ((0 : Int) ≤ (z).toInt ∧ (z).toInt ≤ 1)) :=
  t_Dealer_twoAreKnown_b0 N hN s0 n1 f1 v1 v2  h_s0 h_s0_0 h_s0_1 h_n1 h_v1 h_v2 
theorem t_Dealer_isKnown_b59 (N : Nat) (hN : 50000000 ≤ N) (s0 : zSt) (n1 : Nat) (f1 : Nat → Int32) (h_s0 : I_Dealer s0) (h_s0_0 : (1 : Int) ≤ (zI s0 0).toInt ∧ (zI s0 0).toInt ≤ 8) (h_s0_1 : (1 : Int) ≤ (zI s0 1).toInt ∧ (zI s0 1).toInt ≤ 2) (h_n1 : n1 = 8) : zok (Dealer_isKnown_b59 N s0 n1 f1) (fun z => ((0 : Int) ≤ (z).toInt ∧ (z).toInt ≤ 1)) := by
  rw [Dealer_isKnown_b59]
  have q1 := li_1
  exact zok_some (show (0 : Int) ≤ ((1 : Int32)).toInt ∧ ((1 : Int32)).toInt ≤ 1 from ⟨by omega, by omega⟩)
theorem t_Dealer_isKnown_b35 (N : Nat) (hN : 50000000 ≤ N) (kh3 : Int32 → Option (Int32)) (m3 : Int) (s0 : zSt) (n1 : Nat) (f1 : Nat → Int32) (v1 : Int32) (v2 : Int32) (v4 : Int32) (hkh3 : ∀ (v4 : Int32), (0 : Int) ≤ (v4).toInt ∧ (v4).toInt ≤ 7 → (v1).toInt ≤ (7 : Int) → 8 - (v4).toInt ≤ m3 - 1 → zok (kh3 v4) (fun z => ((0 : Int) ≤ (z).toInt ∧ (z).toInt ≤ 1))) (h_s0 : I_Dealer s0) (h_s0_0 : (1 : Int) ≤ (zI s0 0).toInt ∧ (zI s0 0).toInt ≤ 8) (h_s0_1 : (1 : Int) ≤ (zI s0 1).toInt ∧ (zI s0 1).toInt ≤ 2) (h_n1 : n1 = 8) (h_v1 : (1 : Int) ≤ (v1).toInt ∧ (v1).toInt ≤ 7) (h_v2 : (0 : Int) ≤ (v2).toInt ∧ (v2).toInt ≤ 7) (h_v4 : (0 : Int) ≤ (v4).toInt ∧ (v4).toInt ≤ 6) (hm3 : 8 - (v4).toInt ≤ m3) : zok (Dealer_isKnown_b35 N kh3 s0 n1 f1 v1 v2 v4) (fun z => ((0 : Int) ≤ (z).toInt ∧ (z).toInt ≤ 1)) := by
  rw [Dealer_isKnown_b35]
  have q1 := li_1
  have q2 := tadd v4 (1 : Int32) (by omega) (by omega)
  have q3 := li_7
  exact hkh3 _ (show (0 : Int) ≤ ((v4 + (1 : Int32))).toInt ∧ ((v4 + (1 : Int32))).toInt ≤ 7 from ⟨by omega, by omega⟩) (show (v1).toInt ≤ (7 : Int) from by omega) (show 8 - ((v4 + (1 : Int32))).toInt ≤ m3 - 1 by omega)
theorem t_Dealer_isKnown_b3 (N : Nat) (hN : 50000000 ≤ N) (kh3 : Int32 → Option (Int32)) (m3 : Int) (s0 : zSt) (n1 : Nat) (f1 : Nat → Int32) (v1 : Int32) (v2 : Int32) (v4 : Int32) (hkh3 : ∀ (v4 : Int32), (0 : Int) ≤ (v4).toInt ∧ (v4).toInt ≤ 7 → (v1).toInt ≤ (7 : Int) → 8 - (v4).toInt ≤ m3 - 1 → zok (kh3 v4) (fun z => ((0 : Int) ≤ (z).toInt ∧ (z).toInt ≤ 1))) (h_s0 : I_Dealer s0) (h_s0_0 : (1 : Int) ≤ (zI s0 0).toInt ∧ (zI s0 0).toInt ≤ 8) (h_s0_1 : (1 : Int) ≤ (zI s0 1).toInt ∧ (zI s0 1).toInt ≤ 2) (h_n1 : n1 = 8) (h_v1 : (0 : Int) ≤ (v1).toInt ∧ (v1).toInt ≤ 7) (h_v2 : (0 : Int) ≤ (v2).toInt ∧ (v2).toInt ≤ 7) (h_v4 : (0 : Int) ≤ (v4).toInt ∧ (v4).toInt ≤ 7) (hx0 : (v1).toInt ≤ (7 : Int)) (hm3 : 8 - (v4).toInt ≤ m3) : zok (Dealer_isKnown_b3 N kh3 s0 n1 f1 v1 v2 v4) (fun z => ((0 : Int) ≤ (z).toInt ∧ (z).toInt ≤ 1)) := by
  rw [Dealer_isKnown_b3]
  refine zok_ite (fun c1 => ?_) (fun c1 => ?_)
  · have q2 : (v1).toInt ≤ (v4).toInt := tle c1
    have q4 : (0 : Int) ≤ ((zI s0 1)).toInt ∧ ((zI s0 1)).toInt ≤ 2 := (h_s0).1 1
    have q5 := li_1
    refine zok_ite (fun c3 => ?_) (fun c3 => ?_)
    · have q6 : ((zI s0 1)).toInt = ((1 : Int32)).toInt := teq c3
      have q7 : (0 : Int) ≤ ((zI s0 0)).toInt ∧ ((zI s0 0)).toInt ≤ 8 := (h_s0).1 0
      exact t_Dealer_isKnown_b59 N hN  _ _ _   h_s0 (show (1 : Int) ≤ ((zI s0 0)).toInt ∧ ((zI s0 0)).toInt ≤ 8 from ⟨by omega, by omega⟩) (show (1 : Int) ≤ ((zI s0 1)).toInt ∧ ((zI s0 1)).toInt ≤ 2 from ⟨by omega, by omega⟩) h_n1 
    · have q8 : ((zI s0 1)).toInt ≠ ((1 : Int32)).toInt := tneq c3
      have q9 : (0 : Int) ≤ ((zI s0 0)).toInt ∧ ((zI s0 0)).toInt ≤ 8 := (h_s0).1 0
      refine zok_bind (t_Dealer_twoAreKnown N hN s0 n1 f1 v1 v2 h_s0 (show (1 : Int) ≤ ((zI s0 0)).toInt ∧ ((zI s0 0)).toInt ≤ 8 from ⟨by omega, by omega⟩) (show (2 : Int) ≤ ((zI s0 1)).toInt ∧ ((zI s0 1)).toInt ≤ 2 from ⟨by omega, by omega⟩) h_n1 (show (0 : Int) ≤ (v1).toInt ∧ (v1).toInt ≤ 7 from ⟨by omega, by omega⟩) (show (0 : Int) ≤ (v2).toInt ∧ (v2).toInt ≤ 7 from ⟨by omega, by omega⟩)) (fun z3 hz3 => ?_)
      have h_z3 := hz3
      have q11 := li_0
      refine zok_ite (fun c10 => ?_) (fun c10 => ?_)
      · have q12 : (z3).toInt = ((0 : Int32)).toInt := teq c10
        exact zok_some (show (0 : Int) ≤ ((0 : Int32)).toInt ∧ ((0 : Int32)).toInt ≤ 1 from ⟨by omega, by omega⟩)
      · have q13 : (z3).toInt ≠ ((0 : Int32)).toInt := tneq c10
        exact t_Dealer_isKnown_b59 N hN  _ _ _   h_s0 (show (1 : Int) ≤ ((zI s0 0)).toInt ∧ ((zI s0 0)).toInt ≤ 8 from ⟨by omega, by omega⟩) (show (1 : Int) ≤ ((zI s0 1)).toInt ∧ ((zI s0 1)).toInt ≤ 2 from ⟨by omega, by omega⟩) h_n1 
  · have q14 : (v1).toInt > (v4).toInt := tnle c1
    refine zok_ck (show vp_in v4 n1 from vin (by omega) (by omega)) ?_
    have q16 := tr (f1 (Int32.toNatClampNeg v4))
    refine zok_ite (fun c15 => ?_) (fun c15 => ?_)
    · have q17 : ((f1 (Int32.toNatClampNeg v4))).toInt = (v2).toInt := teq c15
      refine zok_ck (show vp_in v4 8 from vin (by omega) (by omega)) ?_
      refine zok_ck (show vp_in v1 8 from vin (by omega) (by omega)) ?_
      have q19 : (0 : Int) ≤ (((zA s0 2) (Int32.toNatClampNeg v4))).toInt ∧ (((zA s0 2) (Int32.toNatClampNeg v4))).toInt ≤ 99 := (h_s0).2 2 _
      have q20 : (0 : Int) ≤ (((zA s0 2) (Int32.toNatClampNeg v1))).toInt ∧ (((zA s0 2) (Int32.toNatClampNeg v1))).toInt ≤ 99 := (h_s0).2 2 _
      refine zok_ite (fun c18 => ?_) (fun c18 => ?_)
      · have q21 : (((zA s0 2) (Int32.toNatClampNeg v4))).toInt = (((zA s0 2) (Int32.toNatClampNeg v1))).toInt := teq c18
        have q22 := li_0
        exact zok_some (show (0 : Int) ≤ ((0 : Int32)).toInt ∧ ((0 : Int32)).toInt ≤ 1 from ⟨by omega, by omega⟩)
      · have q23 : (((zA s0 2) (Int32.toNatClampNeg v4))).toInt ≠ (((zA s0 2) (Int32.toNatClampNeg v1))).toInt := tneq c18
        have q24 : (0 : Int) ≤ ((zI s0 0)).toInt ∧ ((zI s0 0)).toInt ≤ 8 := (h_s0).1 0
        have q25 : (0 : Int) ≤ ((zI s0 1)).toInt ∧ ((zI s0 1)).toInt ≤ 2 := (h_s0).1 1
        exact t_Dealer_isKnown_b35 N hN kh3 m3 _ _ _ _ _ _  hkh3 h_s0 (show (1 : Int) ≤ ((zI s0 0)).toInt ∧ ((zI s0 0)).toInt ≤ 8 from ⟨by omega, by omega⟩) (show (1 : Int) ≤ ((zI s0 1)).toInt ∧ ((zI s0 1)).toInt ≤ 2 from ⟨by omega, by omega⟩) h_n1 (show (1 : Int) ≤ (v1).toInt ∧ (v1).toInt ≤ 7 from ⟨by omega, by omega⟩) (show (0 : Int) ≤ (v2).toInt ∧ (v2).toInt ≤ 7 from ⟨by omega, by omega⟩) (show (0 : Int) ≤ (v4).toInt ∧ (v4).toInt ≤ 6 from ⟨by omega, by omega⟩) (show 8 - (v4).toInt ≤ m3 from by omega)
    · have q26 : ((f1 (Int32.toNatClampNeg v4))).toInt ≠ (v2).toInt := tneq c15
      have q27 : (0 : Int) ≤ ((zI s0 0)).toInt ∧ ((zI s0 0)).toInt ≤ 8 := (h_s0).1 0
      have q28 : (0 : Int) ≤ ((zI s0 1)).toInt ∧ ((zI s0 1)).toInt ≤ 2 := (h_s0).1 1
      exact t_Dealer_isKnown_b35 N hN kh3 m3 _ _ _ _ _ _  hkh3 h_s0 (show (1 : Int) ≤ ((zI s0 0)).toInt ∧ ((zI s0 0)).toInt ≤ 8 from ⟨by omega, by omega⟩) (show (1 : Int) ≤ ((zI s0 1)).toInt ∧ ((zI s0 1)).toInt ≤ 2 from ⟨by omega, by omega⟩) h_n1 (show (1 : Int) ≤ (v1).toInt ∧ (v1).toInt ≤ 7 from ⟨by omega, by omega⟩) (show (0 : Int) ≤ (v2).toInt ∧ (v2).toInt ≤ 7 from ⟨by omega, by omega⟩) (show (0 : Int) ≤ (v4).toInt ∧ (v4).toInt ≤ 6 from ⟨by omega, by omega⟩) (show 8 - (v4).toInt ≤ m3 from by omega)
theorem t_Dealer_isKnown_h3 (N : Nat) (hN : 50000000 ≤ N) (s0 : zSt) (n1 : Nat) (f1 : (Nat → Int32)) (v1 : Int32) (v2 : Int32) (h_s0 : I_Dealer s0) (h_s0_0 : (1 : Int) ≤ (zI s0 0).toInt ∧ (zI s0 0).toInt ≤ 8) (h_s0_1 : (1 : Int) ≤ (zI s0 1).toInt ∧ (zI s0 1).toInt ≤ 2) (h_n1 : n1 = 8) (h_v1 : (0 : Int) ≤ (v1).toInt ∧ (v1).toInt ≤ 7) (h_v2 : (0 : Int) ≤ (v2).toInt ∧ (v2).toInt ≤ 7) : ∀ (n : Nat) (v4 : Int32), (0 : Int) ≤ (v4).toInt ∧ (v4).toInt ≤ 7 → (v1).toInt ≤ (7 : Int) → 8 - (v4).toInt ≤ (n : Int) → zok (Dealer_isKnown_h3 N s0 n1 f1 v1 v2 n v4) (fun z => ((0 : Int) ≤ (z).toInt ∧ (z).toInt ≤ 1))
  | 0, v4, h_v4, hx0, hm => absurd hm (by omega)
  | n + 1, v4, h_v4, hx0, hm => by
    rw [Dealer_isKnown_h3_s]
    exact t_Dealer_isKnown_b3 N hN (Dealer_isKnown_h3 N s0 n1 f1 v1 v2 n) ((n + 1 : Nat) : Int) s0 n1 f1 v1 v2 v4  (fun v4 h_v4 hx0 q => t_Dealer_isKnown_h3 N hN  s0 n1 f1 v1 v2   h_s0 h_s0_0 h_s0_1 h_n1 h_v1 h_v2   n v4 h_v4 hx0 (by omega)) h_s0 h_s0_0 h_s0_1 h_n1 h_v1 h_v2 h_v4 hx0  hm
theorem t_Dealer_isKnown_b0 (N : Nat) (hN : 50000000 ≤ N) (s0 : zSt) (n1 : Nat) (f1 : Nat → Int32) (v1 : Int32) (v2 : Int32) (h_s0 : I_Dealer s0) (h_s0_0 : (1 : Int) ≤ (zI s0 0).toInt ∧ (zI s0 0).toInt ≤ 8) (h_s0_1 : (1 : Int) ≤ (zI s0 1).toInt ∧ (zI s0 1).toInt ≤ 2) (h_n1 : n1 = 8) (h_v1 : (0 : Int) ≤ (v1).toInt ∧ (v1).toInt ≤ 7) (h_v2 : (0 : Int) ≤ (v2).toInt ∧ (v2).toInt ≤ 7) (hx0 : (v1).toInt ≤ (7 : Int)) : zok (Dealer_isKnown_b0 N s0 n1 f1 v1 v2) (fun z => ((0 : Int) ≤ (z).toInt ∧ (z).toInt ≤ 1)) := by
  rw [Dealer_isKnown_b0]
  have q1 : (0 : Int) ≤ ((zI s0 0)).toInt ∧ ((zI s0 0)).toInt ≤ 8 := (h_s0).1 0
  have q2 : (0 : Int) ≤ ((zI s0 1)).toInt ∧ ((zI s0 1)).toInt ≤ 2 := (h_s0).1 1
  have q3 := li_0
  have q4 := li_7
  exact t_Dealer_isKnown_h3 N hN  _ _ _ _ _   h_s0 (show (1 : Int) ≤ ((zI s0 0)).toInt ∧ ((zI s0 0)).toInt ≤ 8 from ⟨by omega, by omega⟩) (show (1 : Int) ≤ ((zI s0 1)).toInt ∧ ((zI s0 1)).toInt ≤ 2 from ⟨by omega, by omega⟩) h_n1 (show (0 : Int) ≤ (v1).toInt ∧ (v1).toInt ≤ 7 from ⟨by omega, by omega⟩) (show (0 : Int) ≤ (v2).toInt ∧ (v2).toInt ≤ 7 from ⟨by omega, by omega⟩)  N _ (show (0 : Int) ≤ ((0 : Int32)).toInt ∧ ((0 : Int32)).toInt ≤ 7 from ⟨by omega, by omega⟩) (show (v1).toInt ≤ (7 : Int) from by omega) (show 8 - ((0 : Int32)).toInt ≤ (N : Int) from by omega)
