theorem zge_m1 {e : Int32} (h : ¬ e < 0) : (-1 : Int32) < e := by
  rw [Int32.lt_iff_toInt_lt] at h ⊢
  have h0 : (0 : Int32).toInt = 0 := by decide
  have h1 : (-1 : Int32).toInt = -1 := by decide
  rw [h0] at h
  rw [h1]
  omega
theorem w_no (N : Nat) (e : Int32) : CH_within N e 0 (0 - 1) = some 0 := by
  rw [CH_within, CH_within_b0]
  by_cases h : e < 0
  · rw [if_pos h]
  · rw [if_neg h, if_pos (show (0 : Int32) - 1 < e from zge_m1 h)]
theorem m_no (N : Nat) (e : Int32) : Mo_isIn N e 0 (0 - 1) = some 0 := w_no N e
theorem w_cases (N : Nat) (a b c : Int32) : CH_within N a b c = some 0 ∨ (CH_within N a b c = some 1 ∧ ¬ a < b ∧ ¬ c < a) := by
  rw [CH_within, CH_within_b0]
  by_cases h : a < b
  · rw [if_pos h]; exact Or.inl rfl
  · rw [if_neg h]
    by_cases h2 : c < a
    · rw [if_pos h2]; exact Or.inl rfl
    · rw [if_neg h2]; exact Or.inr ⟨rfl, h, h2⟩
theorem w_isIn (N : Nat) (a b c : Int32) : Mo_isIn N a b c = CH_within N a b c := rfl
theorem wn_cases (N : Nat) (a : Int32) (k b j : Nat) (hk : k < 2 ^ 31) (hb : b < 2 ^ 31) : CH_within N a (nI k) (nI b) = some 0 ∨ (CH_within N a (nI k) (nI b) = some 1 ∧ ∃ j, k ≤ j ∧ j ≤ b ∧ a = nI j) := by
  rcases w_cases N a (nI k) (nI b) with h | ⟨h, h1, h2⟩
  · exact Or.inl h
  · refine Or.inr ⟨h, ?_⟩
    rcases zcases a with q | ⟨n, hn, rfl⟩
    · exfalso
      apply h1
      rw [Int32.lt_iff_toInt_lt] at q ⊢
      have e0 : (0 : Int32).toInt = 0 := by decide
      rw [nI_toInt hk]
      omega
    · rw [nI_ltI hn hk] at h1
      rw [nI_ltI hb hn] at h2
      exact ⟨n, by omega, by omega, rfl⟩
theorem zcb0 {α : Type} (x : Option α) : zcb 0 x = x := if_pos (Or.inl rfl)
theorem zcb1 {α : Type} (x : Option α) : zcb 1 x = x := if_pos (Or.inr rfl)
theorem hb0 (e : Int32) : Valley_hasBell 200 zz e = some 0 := by
  show (CH_within 200 e 0 (0 - 1)).bind _ = _
  rw [w_no]; exact zcb0 _
theorem he0 (e : Int32) : Valley_hasEar 200 zz e = some 0 := by
  show (CH_within 200 e 0 (0 - 1)).bind _ = _
  rw [w_no]; exact zcb0 _
theorem ib0 (e : Int32) : Mo_isBell 200 m0 e = some 0 := by
  show (CH_within 200 e 0 (0 - 1)).bind _ = _
  rw [w_no]; exact zcb0 _
theorem ie0 (e : Int32) : Mo_isEar 200 m0 e = some 0 := by
  show (CH_within 200 e 0 (0 - 1)).bind _ = _
  rw [w_no]; exact zcb0 _
theorem isq (N : Nat) (e : Int32) : (CH_isQuarter N e = some 0 ∧ Mo_isQuarter N e = some 0) ∨ (CH_isQuarter N e = some 1 ∧ Mo_isQuarter N e = some 1) := by
  show (((CH_within N e 0 95).bind _ = _) ∧ ((CH_within N e 0 95).bind _ = _)) ∨ (((CH_within N e 0 95).bind _ = _) ∧ ((CH_within N e 0 95).bind _ = _))
  rcases w_cases N e 0 95 with h | ⟨h, -⟩ <;> rw [h]
  · exact Or.inl ⟨zcb0 _, zcb0 _⟩
  · exact Or.inr ⟨zcb1 _, zcb1 _⟩
theorem isp (N : Nat) (e : Int32) : (CH_isPlace N e = some 0 ∧ Mo_isPlace N e = some 0) ∨ (CH_isPlace N e = some 1 ∧ Mo_isPlace N e = some 1) := by
  show (((CH_within N e 0 99).bind _ = _) ∧ ((CH_within N e 0 99).bind _ = _)) ∨ (((CH_within N e 0 99).bind _ = _) ∧ ((CH_within N e 0 99).bind _ = _))
  rcases w_cases N e 0 99 with h | ⟨h, -⟩ <;> rw [h]
  · exact Or.inl ⟨zcb0 _, zcb0 _⟩
  · exact Or.inr ⟨zcb1 _, zcb1 _⟩
theorem isw (N : Nat) (e : Int32) : (CH_isWind N e = some 0 ∧ Mo_isWind N e = some 0) ∨ (CH_isWind N e = some 1 ∧ Mo_isWind N e = some 1 ∧ ∃ j, j ≤ 20 ∧ e = nI j) := by
  show (((CH_within N e (nI 0) (nI 20)).bind _ = _) ∧ ((CH_within N e (nI 0) (nI 20)).bind _ = _)) ∨ (((CH_within N e (nI 0) (nI 20)).bind _ = _) ∧ ((CH_within N e (nI 0) (nI 20)).bind _ = _) ∧ _)
  rcases wn_cases N e 0 20 0 (by omega) (by omega) with h | ⟨h, j, -, hj, ej⟩ <;> rw [h]
  · exact Or.inl ⟨zcb0 _, zcb0 _⟩
  · exact Or.inr ⟨zcb1 _, zcb1 _, j, hj, ej⟩
theorem i01 : ¬ (1 : Int32) = 0 := by decide
theorem p_end (n : Int32) : zeqv (CH_end 200 zz n) (Mo_end 200 m0 n) (fun z w => z.1 = w.1) := by
  rw [CH_end, CH_end_b0, CH_within, CH_within_b0, Mo_end, Mo_end_b0]
  by_cases h : n < 0
  · rw [if_pos h, if_pos h]; exact ⟨_, _, rfl, rfl, rfl⟩
  · rw [if_neg h, if_neg h]
    by_cases h2 : (0 : Int32) < n
    · rw [if_pos (show zI zz 1 < n from h2), if_neg (show ¬ n ≤ zI m0 1 from Int32.not_le.mpr h2)]; exact ⟨_, _, rfl, rfl, rfl⟩
    · rw [if_neg (show ¬ zI zz 1 < n from h2), if_pos (show n ≤ zI m0 1 from Int32.not_lt.mp h2)]; exact ⟨_, _, rfl, rfl, rfl⟩
theorem p_valley : zeqv (CH_valley 200 zz (zpI zz 1 (-1)) zz zz (zA zz 0) zz zz zz) (Mo_valley 200 m0) (fun z w => z.1 = w.1) := zeqv_mp q_valley q_valleyM
theorem p_fault (v : Int32) : zeqv (CH_fault 200 zz (zpI zz 1 (-1)) v) (Mo_fault 200 m0 v) (fun z w => z = w) := by
  rw [CH_fault, CH_fault_b0, Mo_fault, Mo_fault_b0]
  by_cases h : v = 0
  · rw [if_pos h, if_pos h]; exact ⟨_, _, rfl, rfl, rfl⟩
  · rw [if_neg h, if_neg h]
    by_cases h2 : v = 1
    · rw [if_pos h2, if_pos h2]; exact ⟨_, _, rfl, rfl, rfl⟩
    · rw [if_neg h2, if_neg h2]; exact ⟨_, _, rfl, rfl, rfl⟩
theorem p_bell (a b : Int32) : zeqv (CH_bell 200 zz zz zz a b) (Mo_bell 200 m0 a b) (fun z w => z = w) := by
  rw [CH_bell, CH_bell_b0, Mo_bell, Mo_bell_b0, hb0, ib0]; exact ⟨_, _, rfl, rfl, rfl⟩
theorem p_hear (a b : Int32) : zeqv (CH_hear 200 zz zz zz a b) (Mo_hear 200 m0 a b) (fun z w => z = w) := by
  rw [CH_hear, CH_hear_b0, Mo_hear, Mo_hear_b0, he0, ie0]; exact ⟨_, _, rfl, rfl, rfl⟩
theorem p_chord (a : Int32) : zeqv (CH_chord 200 zz zz zz a) (Mo_chord 200 m0 a) (fun z w => z = w) := by
  rw [CH_chord, CH_chord_b0, Mo_chord, Mo_chord_b0, he0, ie0]; exact ⟨_, _, rfl, rfl, rfl⟩
theorem p_comes (a b c : Int32) : zeqv (CH_comes 200 zz zz zz a b) (Mo_comes 200 m0 a c) (fun z w => z.1 = w.1) := by
  rw [CH_comes, CH_comes_b0, Mo_comes, Mo_comes_b0, hb0, ib0]; exact ⟨_, _, rfl, rfl, rfl⟩
theorem p_stand (a b c : Int32) : zeqv (CH_stand 200 zz zz zz a b) (Mo_stand 200 m0 a c) (fun z w => z.1 = w.1) := by
  rw [CH_stand, CH_stand_b0, Mo_stand, Mo_stand_b0, hb0, ib0]; exact ⟨_, _, rfl, rfl, rfl⟩
theorem p_walk (a b : Int32) : zeqv (CH_walk 200 zz zz a b) (Mo_walk 200 m0 a b) (fun z w => z.1 = w.1) := by
  rw [CH_walk, CH_walk_b0, Mo_walk, Mo_walk_b0]
  rcases isp 200 a with ⟨h, k⟩ | ⟨h, k⟩ <;> rw [h, k]
  · exact ⟨_, _, rfl, rfl, rfl⟩
  · rcases isw 200 b with ⟨h, k⟩ | ⟨h, k, -⟩ <;> rw [h, k] <;> exact ⟨_, _, rfl, rfl, rfl⟩
theorem p_crack (a b : Int32) : zeqv (CH_crack 200 zz zz zz a b) (Mo_crack 200 m0 a b) (fun z w => z.1 = w.1) := by
  rw [CH_crack, CH_crack_b0, Mo_crack, Mo_crack_b0, hb0, ib0]; exact ⟨_, _, rfl, rfl, rfl⟩
theorem p_years (a : Int32) : zeqv (CH_years 200 zz zz a) (Mo_years 200 m0 a) (fun z w => z.1 = w.1) := by
  rw [CH_years, CH_years_b0, Mo_years, Mo_years_b0, w_isIn]
  rcases w_cases 200 a 0 20 with h | ⟨h, -⟩ <;> rw [h]
  · exact ⟨_, _, rfl, rfl, rfl⟩
  · simp only [zbs, if_neg i01]
    by_cases q : (0 : Int32) + a ≤ 200
    · rw [if_pos (show zI zz 4 + a ≤ 200 from q), if_pos (show zI m0 38 + a ≤ 200 from q)]; exact ⟨_, _, rfl, rfl, rfl⟩
    · rw [if_neg (show ¬ zI zz 4 + a ≤ 200 from q), if_neg (show ¬ zI m0 38 + a ≤ 200 from q)]; exact ⟨_, _, rfl, rfl, rfl⟩
theorem p_sound (a b c d e : Int32) : zeqv (CH_sound 200 zz zz zz a b c d e) (Mo_sound 200 m0 a b c d e) (fun z w => z.1 = w.1) := by
  rw [CH_sound, CH_sound_b0, Mo_sound, Mo_sound_b0]
  rcases isq 200 a with ⟨h, k⟩ | ⟨h, k⟩ <;> rw [h, k]
  · exact ⟨_, _, rfl, rfl, rfl⟩
  · simp only [zbs, if_neg i01, he0, ie0, if_true]; exact ⟨_, _, rfl, rfl, rfl⟩
theorem p_note (a b c d : Int32) : zeqv (CH_note 200 zz zz zz zz a b c d) (Mo_note 200 m0 a b c d) (fun z w => z.1 = w.1) := by
  have e : CH_hear 200 zz zz zz b c = some (-1) := by rw [CH_hear, CH_hear_b0, he0]; rfl
  rw [CH_note, CH_note_b0, Mo_note, Mo_note_b0, e]
  rcases isq 200 a with ⟨-, k⟩ | ⟨-, k⟩ <;> rw [k]
  · exact ⟨_, _, rfl, rfl, rfl⟩
  · simp only [zbs, if_neg i01, ie0, if_true]; exact ⟨_, _, rfl, rfl, rfl⟩
theorem p_untell (a : Int32) : zeqv (CH_untell 200 zz zz a) (Mo_untell 200 m0 a) (fun z w => z.1 = w.1) := by
  rw [CH_untell, CH_untell_b0, Mo_untell, Mo_untell_b0]
  rw [show CH_within 200 a 0 (zI zz 0 - 1) = some 0 from w_no 200 a, show Mo_isIn 200 a 0 (zI m0 47 - 1) = some 0 from w_no 200 a]
  exact ⟨_, _, rfl, rfl, rfl⟩
theorem p_later (a : Int32) : zeqv (CH_later 200 zz a) (Mo_later 200 m0 a) (fun z w => z.1 = w.1) := by
  rw [CH_later, CH_later_b0, Mo_later, Mo_later_b0, CH_within, CH_within_b0]
  by_cases h : a < 0
  · rw [if_pos h, if_pos h]; exact ⟨_, _, rfl, rfl, rfl⟩
  · rw [if_neg h, if_neg h]
    by_cases h2 : (1000 : Int32) < a
    · rw [if_pos h2, if_pos h2]; exact ⟨_, _, rfl, rfl, rfl⟩
    · rw [if_neg h2, if_neg h2]
      simp only [zbs, if_neg i01]
      by_cases q : (0 : Int32) + a ≤ 100000
      · rw [if_pos (show zI zz 9 + a ≤ 100000 from q), if_pos (show zI m0 48 + a ≤ 100000 from q)]; exact ⟨_, _, rfl, rfl, rfl⟩
      · rw [if_neg (show ¬ zI zz 9 + a ≤ 100000 from q), if_neg (show ¬ zI m0 48 + a ≤ 100000 from q)]; exact ⟨_, _, rfl, rfl, rfl⟩
theorem p_spring (a b c d e : Int32) : zeqv (CH_spring 200 zz zz zz a b c d e) (Mo_spring 200 m0 a b c d e) (fun z w => z.1 = w.1) := by
  rw [CH_spring, CH_spring_b0, Mo_spring, Mo_spring_b0, he0, ie0]; exact ⟨_, _, rfl, rfl, rfl⟩
theorem p_parted (a b c : Int32) : zeqv (CH_parted 200 zz zz zz zz zz a b c) (Mo_parted 200 m0 a b c) (fun z w => z.1 = w) := by
  have A : CH_parted 200 zz zz zz zz zz a b c = some ((-2), zz, zz) := by rw [CH_parted, CH_parted_b0, if_pos (by decide)]
  have B : Mo_parted 200 m0 a b c = some (-2) := by
    rw [Mo_parted, Mo_parted_b0]
    rcases isw 200 a with ⟨-, k⟩ | ⟨-, k, -⟩ <;> rw [k]
    · rfl
    · simp only [zbs, if_neg i01, w_isIn]
      rcases w_cases 200 b 0 4 with h | ⟨h, -⟩ <;> rw [h]
      · rfl
      · simp only [zbs, if_neg i01]
        rw [if_pos (by decide)]
  exact ⟨_, _, A, B, rfl⟩
theorem p_came (a b c d e : Int32) : zeqv (CH_came 200 zz zz zz a b c d e) (Mo_came 200 m0 a b c d e) (fun z w => z = w) := by
  rw [CH_came, CH_came_b0, Mo_came, Mo_came_b0, hb0, ib0]; exact ⟨_, _, rfl, rfl, rfl⟩
theorem p_lies (a : Int32) : zeqv (CH_lies 200 zz a) (Mo_lies 200 m0 a) (fun z w => z = w) := by
  rw [CH_lies, CH_lies_b0, Mo_lies, Mo_lies_b0]
  rw [show CH_within 200 a 0 (zI zz 11 - 1) = some 0 from w_no 200 a, show Mo_isIn 200 a 0 (zI m0 58 - 1) = some 0 from w_no 200 a]
  exact ⟨_, _, rfl, rfl, rfl⟩
