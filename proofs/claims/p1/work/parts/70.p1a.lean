theorem zmp {α β : Type} {o : Option α} {f : α → β} {r : β} (h : o.map f = some r) : ∃ z, o = some z ∧ f z = r := by
  cases o with
  | none => cases h
  | some z => exact ⟨z, rfl, by injection h⟩
/-- two Options come to values that agree -/
def zeqv {α β : Type} (o : Option α) (p : Option β) (R : α → β → Prop) : Prop := ∃ z w, o = some z ∧ p = some w ∧ R z w
theorem zeqv_mp {α β γ : Type} {o : Option α} {p : Option β} {f : α → γ} {g : β → γ} {r : γ} (h : o.map f = some r) (k : p.map g = some r) : zeqv o p (fun z w => f z = g w) := by
  obtain ⟨z, e, hz⟩ := zmp h
  obtain ⟨w, e2, hw⟩ := zmp k
  exact ⟨z, w, e, e2, hz.trans hw.symm⟩
theorem zeqv_eq {α : Type} {o p : Option α} {r : α} (h : o = some r) (k : p = some r) : zeqv o p (fun z w => z = w) := ⟨r, r, h, k, rfl⟩
/-- the reference as it is made -/
def m0 : zSt := zpI zz 3 (-1)
theorem q_valley : (CH_valley 200 zz (zpI zz 1 (-1)) zz zz (zA zz 0) zz zz zz).map (·.1) = some 0 := by decide +kernel
theorem q_valleyM : (Mo_valley 200 m0).map (·.1) = some 0 := by decide +kernel
theorem q_dealt : ∀ m < 2, (CH_dealt 200 zz zz zz (nI (m + 1))).map (·.1) = some 0 ∧ (Mo_dealt 200 m0 (nI (m + 1))).map (·.1) = some 0 := by decide +kernel
theorem q_fresh : ∀ k < 99, CH_fresh 200 zz zz (nI (k + 1)) 0 = some 0 ∧ Mo_fresh 200 m0 (nI (k + 1)) 0 = some 0 := by decide +kernel
theorem q_image : ∀ k < 3, (CH_image 200 zz zz zz zz zz (nI k)).map (·.1) = some 0 ∧ (Mo_image 200 m0 (nI k)).map (·.1) = some 0 := by decide +kernel
theorem q_back : ∀ k < 3, (CH_back 200 zz zz zz zz zz (nI k)).map (·.1) = some (-1) ∧ (Mo_back 200 m0 (nI k)).map (·.1) = some (-1) := by decide +kernel
/-! feed -/
theorem tf_step (N n : Nat) (s : zSt) (v v2 : Int32) (k : Nat) (hv : ¬ v2 < 0) (hk : k < 1500) (h : zI s 1 = nI k) : ∃ s', CH_tapeFour_h3 N v (n + 1) s v2 = CH_tapeFour_h3 N v n s' (v2 + (-8)) ∧ zI s' 1 = nI (k + 1) := by
  refine ⟨zpI (zsA s 0 (upd (zA s 0) (Int32.toNatClampNeg (zI s 1)) (vp_nar .byte (Int8.toInt32 (Int32.toInt8 (v >>> (v2 &&& 31))))))) 1 ((zI s 1) + 1), ?_, ?_⟩
  · rw [CH_tapeFour_h3_s, CH_tapeFour_b3, if_neg hv, if_neg (by rw [h]; exact fun q => absurd ((zleR (k := 1500) (by omega) (by omega)).mp q) (by omega)), zck_in (by rw [h]; exact zin hk (by omega))]
  · rw [zI_pI, if_pos rfl, h, nI_1]
theorem tf_all (n : Nat) (s : zSt) (v : Int32) (k : Nat) (hk : k + 4 ≤ 1500) (h : zI s 1 = nI k) (N : Nat) (hN : N = n + 5) : zok (CH_tapeFour N s v) (fun z => zI z 1 = nI (k + 4)) := by
  subst hN
  show zok (CH_tapeFour_h3 (n + 5) v (n + 4 + 1) s 24) _
  obtain ⟨s1, e1, h1⟩ := tf_step (n + 5) (n + 4) s v 24 k (by decide) (by omega) h
  rw [e1]
  obtain ⟨s2, e2, h2⟩ := tf_step (n + 5) (n + 3) s1 v (24 + (-8)) (k + 1) (by decide) (by omega) h1
  rw [e2]
  obtain ⟨s3, e3, h3⟩ := tf_step (n + 5) (n + 2) s2 v (24 + (-8) + (-8)) (k + 2) (by decide) (by omega) h2
  rw [e3]
  obtain ⟨s4, e4, h4⟩ := tf_step (n + 5) (n + 1) s3 v (24 + (-8) + (-8) + (-8)) (k + 3) (by decide) (by omega) h3
  rw [e4, CH_tapeFour_h3_s, CH_tapeFour_b3, if_pos (by decide)]
  exact zok_some h4
theorem mf_step (N n : Nat) (s : zSt) (v v2 : Int32) (k : Nat) (hv : ¬ v2 < 0) (hk : k < 1500) (h : zI s 1 = nI k) : ∃ s', Mo_four_h3 N v (n + 1) s v2 = Mo_four_h3 N v n s' (v2 + (-8)) ∧ zI s' 1 = nI (k + 1) := by
  refine ⟨zpI (zsA s 0 (upd (zA s 0) (Int32.toNatClampNeg (zI s 1)) ((v >>> (v2 &&& 31)) &&& 255))) 1 ((zI s 1) + 1), ?_, ?_⟩
  · rw [Mo_four_h3_s, Mo_four_b3, if_neg hv, zck_in (by rw [h]; exact zin hk (by omega))]
  · rw [zI_pI, if_pos rfl, h, nI_1]
theorem mf_all (n : Nat) (s : zSt) (v : Int32) (k : Nat) (hk : k + 4 ≤ 1500) (h : zI s 1 = nI k) (N : Nat) (hN : N = n + 5) : zok (Mo_four N s v) (fun z => zI z 1 = nI (k + 4)) := by
  subst hN
  show zok (Mo_four_h3 (n + 5) v (n + 4 + 1) s 24) _
  obtain ⟨s1, e1, h1⟩ := mf_step (n + 5) (n + 4) s v 24 k (by decide) (by omega) h
  rw [e1]
  obtain ⟨s2, e2, h2⟩ := mf_step (n + 5) (n + 3) s1 v (24 + (-8)) (k + 1) (by decide) (by omega) h1
  rw [e2]
  obtain ⟨s3, e3, h3⟩ := mf_step (n + 5) (n + 2) s2 v (24 + (-8) + (-8)) (k + 2) (by decide) (by omega) h2
  rw [e3]
  obtain ⟨s4, e4, h4⟩ := mf_step (n + 5) (n + 1) s3 v (24 + (-8) + (-8) + (-8)) (k + 3) (by decide) (by omega) h3
  rw [e4, Mo_four_h3_s, Mo_four_b3, if_pos (by decide)]
  exact zok_some h4
theorem p_feed (a b c d e : Int32) : zeqv (CH_feed 200 zz a b c d e) (Mo_feed 200 m0 a b c d e) (fun z w => z.1 = w.1) := by
  have A : zok (CH_feed 200 zz a b c d e) (fun z => z.1 = nI 20) := by
    rw [CH_feed, CH_feed_b0, if_pos (by decide)]
    refine zok_bind (tf_all 195 _ a 0 (by omega) (by decide) _ rfl) (fun z h => ?_)
    refine zok_bind (tf_all 195 _ b 4 (by omega) h _ rfl) (fun z h => ?_)
    refine zok_bind (tf_all 195 _ c 8 (by omega) h _ rfl) (fun z h => ?_)
    refine zok_bind (tf_all 195 _ d 12 (by omega) h _ rfl) (fun z h => ?_)
    exact zok_bind (tf_all 195 _ e 16 (by omega) h _ rfl) (fun z h => zok_some h)
  have B : zok (Mo_feed 200 m0 a b c d e) (fun z => z.1 = nI 20) := by
    rw [Mo_feed, Mo_feed_b0, if_pos (by decide)]
    refine zok_bind (mf_all 195 _ a 0 (by omega) (by decide) _ rfl) (fun z h => ?_)
    refine zok_bind (mf_all 195 _ b 4 (by omega) h _ rfl) (fun z h => ?_)
    refine zok_bind (mf_all 195 _ c 8 (by omega) h _ rfl) (fun z h => ?_)
    refine zok_bind (mf_all 195 _ d 12 (by omega) h _ rfl) (fun z h => ?_)
    exact zok_bind (mf_all 195 _ e 16 (by omega) h _ rfl) (fun z h => zok_some h)
  obtain ⟨z, e1, h1⟩ := A
  obtain ⟨w, e2, h2⟩ := B
  exact ⟨z, w, e1, e2, h1.trans h2.symm⟩
