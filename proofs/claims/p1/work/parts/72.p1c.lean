theorem p_evening (a b : Int32) : zeqv (CH_evening 200 zz zz a b) (Mo_evening 200 m0 a b) (fun z w => z.1 = w.1) := by
  rw [CH_evening, CH_evening_b0, Mo_evening, Mo_evening_b0, w_isIn]
  rcases w_cases 200 a 0 20 with h | ⟨h, -⟩ <;> rw [h]
  · exact ⟨_, _, rfl, rfl, rfl⟩
  · simp only [zbs, if_neg i01, w_isIn]
    rcases w_cases 200 b 0 4095 with h | ⟨h, -⟩ <;> rw [h]
    · exact ⟨_, _, rfl, rfl, rfl⟩
    · simp only [zbs, if_neg i01]
      have q : vp_in (zI zz 0) 40 := by unfold vp_in; decide
      have q2 : vp_in (zI m0 47) 40 := by unfold vp_in; decide
      rw [Entries_add, Entries_add_b0, if_pos (show zI zz 0 < 40 by decide), Mo_entry, Mo_entry_b0, if_neg (show ¬ zI m0 47 = 40 by decide)]
      simp only [zck_in q, zck_in q2, Entries_add_b84, Entries_add_b94, Mo_entry_b87, Mo_entry_b97, Mo_entry_b107, zI_sA, zbs, zI_pI, if_true]
      exact ⟨_, _, rfl, rfl, rfl⟩
theorem p_about (v : Int32) : zeqv (CH_about 200 zz zz zz zz v) (Mo_about 200 m0 v) (fun z w => z = w) := by
  rw [CH_about, CH_about_b0, Mo_about, Mo_about_b0]
  by_cases h : v = 0
  · rw [if_pos h, if_pos h]; exact ⟨_, _, rfl, rfl, rfl⟩
  rw [if_neg h, if_neg h]; clear h
  by_cases h : v = 1
  · rw [if_pos h, if_pos h]; exact ⟨_, _, rfl, rfl, rfl⟩
  rw [if_neg h, if_neg h]; clear h
  by_cases h : v = 2
  · rw [if_pos h, if_pos h]; exact ⟨_, _, rfl, rfl, rfl⟩
  rw [if_neg h, if_neg h]; clear h
  by_cases h : v = 3
  · rw [if_pos h, if_pos h]; exact ⟨_, _, rfl, rfl, rfl⟩
  rw [if_neg h, if_neg h]; clear h
  by_cases h : v = 4
  · rw [if_pos h, if_pos h]; exact ⟨_, _, rfl, rfl, rfl⟩
  rw [if_neg h, if_neg h]; clear h
  by_cases h : v = 5
  · rw [if_pos h, if_pos h]; exact ⟨_, _, rfl, rfl, rfl⟩
  rw [if_neg h, if_neg h]; clear h
  by_cases h : v = 6
  · rw [if_pos h, if_pos h]; exact ⟨_, _, rfl, rfl, rfl⟩
  rw [if_neg h, if_neg h]; clear h
  by_cases h : v = 7
  · rw [if_pos h, if_pos h]; exact ⟨_, _, rfl, rfl, rfl⟩
  rw [if_neg h, if_neg h]; clear h
  by_cases h : v = 8
  · rw [if_pos h, if_pos h]; exact ⟨_, _, rfl, rfl, rfl⟩
  rw [if_neg h, if_neg h]; clear h
  by_cases h : v = 9
  · rw [if_pos h, if_pos h]; exact ⟨_, _, rfl, rfl, rfl⟩
  rw [if_neg h, if_neg h]; clear h
  by_cases h : v = 10
  · rw [if_pos h, if_pos h]; exact ⟨_, _, rfl, rfl, rfl⟩
  rw [if_neg h, if_neg h]; exact ⟨_, _, rfl, rfl, rfl⟩
theorem p_image (v : Int32) : zeqv (CH_image 200 zz zz zz zz zz v) (Mo_image 200 m0 v) (fun z w => z.1 = w.1) := by
  have q : CH_within 200 v 0 2 = Mo_isBox 200 v := by
    rw [CH_within, CH_within_b0, Mo_isBox, Mo_isBox_b0]
    by_cases h : v < 0
    · rw [if_pos h, if_pos h]
    · rw [if_neg h, if_neg h]
      obtain ⟨j, hj, rfl⟩ := nI_of h
      by_cases h2 : 2 < j
      · rw [if_pos ((zltR (k := 2) hj (by omega)).mpr h2), if_pos ((zleR (k := 3) hj (by omega)).mpr h2)]
      · rw [if_neg (fun q => h2 ((zltR (k := 2) hj (by omega)).mp q)), if_neg (fun q => h2 ((zleR (k := 3) hj (by omega)).mp q))]
  rcases wn_cases 200 v 0 2 0 (by omega) (by omega) with h | ⟨h, j, -, hj, rfl⟩
  · have h : CH_within 200 v 0 2 = some 0 := h
    rw [CH_image, CH_image_b0, Mo_image, Mo_image_b0, ← q, h]; exact ⟨_, _, rfl, rfl, rfl⟩
  · exact zeqv_mp (q_image j (by omega)).1 (q_image j (by omega)).2
theorem p_back (v : Int32) : zeqv (CH_back 200 zz zz zz zz zz v) (Mo_back 200 m0 v) (fun z w => z.1 = w.1) := by
  have q : CH_within 200 v 0 2 = Mo_isBox 200 v := by
    rw [CH_within, CH_within_b0, Mo_isBox, Mo_isBox_b0]
    by_cases h : v < 0
    · rw [if_pos h, if_pos h]
    · rw [if_neg h, if_neg h]
      obtain ⟨j, hj, rfl⟩ := nI_of h
      by_cases h2 : 2 < j
      · rw [if_pos ((zltR (k := 2) hj (by omega)).mpr h2), if_pos ((zleR (k := 3) hj (by omega)).mpr h2)]
      · rw [if_neg (fun q => h2 ((zltR (k := 2) hj (by omega)).mp q)), if_neg (fun q => h2 ((zleR (k := 3) hj (by omega)).mp q))]
  rcases wn_cases 200 v 0 2 0 (by omega) (by omega) with h | ⟨h, j, -, hj, rfl⟩
  · have h : CH_within 200 v 0 2 = some 0 := h
    rw [CH_back, CH_back_b0, Mo_back, Mo_back_b0, ← q, h]; exact ⟨_, _, rfl, rfl, rfl⟩
  · exact zeqv_mp (q_back j (by omega)).1 (q_back j (by omega)).2
theorem p_dealt (v : Int32) : zeqv (CH_dealt 200 zz zz zz v) (Mo_dealt 200 m0 v) (fun z w => z.1 = w.1) := by
  rcases wn_cases 200 v 1 2 0 (by omega) (by omega) with h | ⟨h, j, h1, hj, rfl⟩
  · have h : CH_within 200 v 1 2 = some 0 := h
    rw [CH_dealt, CH_dealt_b0, Mo_dealt, Mo_dealt_b0, w_isIn, h]; exact ⟨_, _, rfl, rfl, rfl⟩
  · obtain ⟨i, rfl⟩ : ∃ i, j = i + 1 := ⟨j - 1, by omega⟩
    exact zeqv_mp (q_dealt i (by omega)).1 (q_dealt i (by omega)).2
theorem and_m1 (v : Int32) : v &&& ((0 : Int32) ^^^ (-1)) = v := by
  rw [show (0 : Int32) ^^^ (-1) = -1 by decide]
  exact Int32.and_neg_one
theorem p_fresh (u v : Int32) : zeqv (CH_fresh 200 zz zz u v) (Mo_fresh 200 m0 u v) (fun z w => z = w) := by
  rcases wn_cases 200 u 1 99 0 (by omega) (by omega) with h | ⟨h, j, h1, hj, rfl⟩
  · have h : CH_within 200 u 1 99 = some 0 := h
    rw [CH_fresh, CH_fresh_b0, Mo_fresh, Mo_fresh_b0, w_isIn, h]; exact ⟨_, _, rfl, rfl, rfl⟩
  · by_cases hv : v = 0
    · subst hv
      obtain ⟨i, rfl⟩ : ∃ i, j = i + 1 := ⟨j - 1, by omega⟩
      exact zeqv_eq (q_fresh i (by omega)).1 (q_fresh i (by omega)).2
    · have h : CH_within 200 (nI j) 1 99 = some 1 := h
      have A : CH_fresh 200 zz zz (nI j) v = some (-2) := by
        rw [CH_fresh, CH_fresh_b0, h]
        simp only [zbs, if_neg i01]
        rw [if_neg (show ¬ v &&& (zI zz 8 ^^^ (-1)) = 0 from fun q => hv (by rw [show zI zz 8 = 0 from rfl, and_m1] at q; exact q))]
      have B : Mo_fresh 200 m0 (nI j) v = some (-2) := by
        rw [Mo_fresh, Mo_fresh_b0, w_isIn, h]
        simp only [zbs, if_neg i01]
        by_cases q : v < 0
        · rw [if_pos q]
        · rw [if_neg q, show Mo_beastSet 200 m0 = some 0 by decide +kernel]
          simp only [zbs]
          rw [if_neg (fun q => hv (by rw [and_m1] at q; exact q))]
      exact zeqv_eq A B
