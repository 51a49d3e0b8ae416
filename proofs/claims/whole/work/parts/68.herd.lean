/-! lines -/
theorem Chn.pre {T : Nat → Nat} {n : Nat} : ∀ {i a q : Nat}, Chn T n i a → q < i → ∃ b so pl w nu nx, Chn T n q b ∧ Tk T n b so pl w nu nx ∧ so ≠ 0 ∧ so ≠ 3 := by
  intro i
  induction i with
  | zero => intro a q _ h; exact absurd h (by omega)
  | succ i ih =>
    intro a q h hq
    obtain ⟨a1, so, pl, w, nu, h1, h2, h3, h4⟩ := h
    by_cases e : q = i
    · subst e; exact ⟨a1, so, pl, w, nu, a, h1, h2, h3, h4⟩
    · exact ih h1 (by omega)
/-- a token of the text is one of the Reader's -/
theorem chn_lt {T : Nat → Nat} {n m i a : Nat} (h : Chn T n i a) (h205 : i < 205) (hE : m = 205 ∨ rdE T n m) : i < m := by
  rcases hE with e | ⟨q, b, so, pl, w, nu, nx, e, c1, c2, c3⟩
  · omega
  · rcases Nat.lt_or_ge i m with l | l
    · exact l
    · exfalso
      obtain ⟨b2, so2, pl2, w2, nu2, nx2, d1, d2, d3, d4⟩ := h.pre (q := q) (by omega)
      have eb := Chn.uniq c1 d1
      subst eb
      have := (c2.uniq d2).1
      omega
theorem CT.lt {T : Nat → Nat} {n m j so pl nu nx : Nat} {w : Int64} (h : CT T n j so pl w nu nx) (h205 : j < 205) (hE : m = 205 ∨ rdE T n m) : j < m := by
  obtain ⟨a, h1, _, _⟩ := h
  exact chn_lt h1 h205 hE
/-- what a line leaves alone of the reference -/
def mL (s z : zSt) : Prop := (∀ k, 28 ≤ k → zI z k = zI s k) ∧ zI z 1 = zI s 1
theorem mK.mL {s z : zSt} (h : mK s z) : mL s z := ⟨fun k hk => h.1 k (by omega) (by omega) (by omega) (by omega) (by omega) (by omega), h.1 1 (by decide) (by decide) (by decide) (by decide) (by decide) (by decide)⟩
theorem mL.trans {a b c : zSt} (h : mL a b) (k : mL b c) : mL a c := ⟨fun i hi => (k.1 i hi).trans (h.1 i hi), k.2.trans h.2⟩
/-- the lines told so far, on both sides -/
def LR (M V : zSt) (h b k e d : Nat) : Prop :=
  (zI M 22 = nI h ∧ zI M 23 = nI b ∧ zI M 24 = nI k ∧ zI M 25 = nI (b - k) ∧ zI M 26 = nI e ∧ zI M 27 = nI d) ∧
  (zI V 0 = nI h ∧ zI V 3 = nI b ∧ zI V 9 = nI k ∧ zI V 12 = nI e ∧ zI V 11 = nI d) ∧
  (h ≤ 3 ∧ k ≤ 9 ∧ k ≤ b ∧ b - k ≤ 2 ∧ e ≤ 4 ∧ d ≤ 20) ∧
  ((∀ i, i < h → zB M 10 i = zB V 1 i) ∧ (∀ i l, i < h → l < h → zB V 1 i = zB V 1 l → i = l)) ∧
  ((∀ i, i < b → zB M 10 (16 + i) = zB V 4 i ∧ zA M 11 i = zA V 5 i ∧ zA M 12 i = zA V 6 i ∧ zA M 13 i = zA V 7 i ∧ zA M 15 i = zA V 10 i) ∧ (∀ i l, i < b → l < b → zB V 4 i = zB V 4 l → i = l)) ∧
  ((∀ i, i < e → zB M 10 (32 + i) = zB V 13 i ∧ zA M 14 i = zA V 14 i) ∧ (∀ i l, i < e → l < e → zB V 13 i = zB V 13 l → i = l))
/-- a line's outcome on both sides: the same fault, or all told, the j-th token at hand -/
def LO (T : Nat → Nat) (n j : Nat) (M : zSt) (P : zSt → zSt → Prop) (sT : zSt) (c : Int32 × zSt × zSt) (z : zSt) : Prop :=
  mL M z ∧ ((c.1 = 0 ∧ ∃ F pl, 0 < F ∧ F ≤ 5 ∧ tF c.2.1 F pl ∧ mF z F pl) ∨
  (c.1 = 1 ∧ zI c.2.1 3 = nI j ∧ zI c.2.1 0 = zI sT 0 ∧ zI c.2.1 1 = zI sT 1 ∧ zI z 2 = 0 ∧ (∃ so pl w nu nx, moC z T n j so pl w nu nx) ∧ P z c.2.2))
/-- the end of a line of the reference -/
theorem Mo_lineEnd_F {N : Nat} {z : zSt} {F pl : Nat} (h : mF z F pl) (h0 : 0 < F) (h5 : F ≤ 5) : Mo_readLine_b132 N z = some z := by
  have hn := (h.ne h0 h5).2
  unfold Mo_readLine_b132 Mo_readLine_b153
  rw [if_neg hn, if_neg hn]
theorem Mo_lineEnd_ok {N : Nat} (hN : 1600 ≤ N) {T : Nat → Nat} {n j so pl nu nx : Nat} {w : Int64} {s : zSt} (h : moC s T n j so pl w nu nx) (h2 : zI s 2 = 0) :
    (so = 59 → ∃ z, Mo_readLine_b132 N s = some z ∧ mG s z T n (j + 1)) ∧ (¬ so = 59 → ∃ z, Mo_readLine_b132 N s = some z ∧ mK s z ∧ mF z (zfl so 2) pl) := by
  have h6 := h.2.2.1
  have hso := h.2.1.so
  unfold Mo_readLine_b132
  rw [if_pos h2, h6]
  constructor
  · intro a
    rw [if_pos (by rw [a]; rfl)]
    unfold Mo_readLine_b153
    rw [if_pos h2]
    obtain ⟨z, e, q1, q2, t1, t2, t3, t4, t5, q3⟩ := Mo_token_G hN h h2 (by omega) (by omega)
    rw [e]
    exact ⟨_, rfl, q1.mg, q2, t1, t2, t3, t4, t5, q3.mg q1.2.1⟩
  · intro a
    rw [if_neg (fun q => a ((zeqL (k := 59) (by omega) (by decide)).mp q))]
    obtain ⟨z, e, q1, q2, q3⟩ := Mo_wrong_ok (N := N) h h2 2
    rw [show (2 : Int32) = nI 2 from rfl, e]
    simp only [zbs]
    unfold Mo_readLine_b153
    have q4 : mF (zmg [0, 10, 11, 12, 13, 14, 15] z s) (zfl so 2) pl := q2
    rw [if_neg (q4.ne (zfl_pos (by decide)) (zfl_le (by decide))).2]
    exact ⟨_, rfl, q1.mg, q4⟩
