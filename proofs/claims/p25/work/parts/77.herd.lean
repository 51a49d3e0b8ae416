/-! lines -/
theorem Chn.pre {T : Nat → Nat} {n : Nat} : ∀ {i a q : Nat}, Chn T n i a → q < i → ∃ b so pl w nu nx, Chn T n q b ∧ Tk T n b so pl w nu nx ∧ so ≠ 0 ∧ so ≠ 3 := by
  intro i
  induction i with
  | zero => intro a q _ h; exact absurd h (by omega)
  | succ i ih =>
    intro a q h hq
    obtain ⟨a1, so, pl, w, nu, h1, h2, h3, h4⟩ := h
    by_cases e : q = i
    · subst e; exact ⟨a1, so, pl, w, nu, a, h1, h2, h3, h4⟩
    · exact ih h1 (by omega)
/-- a token of the text is one of the Reader's -/
theorem chn_lt {T : Nat → Nat} {n m i a : Nat} (h : Chn T n i a) (h205 : i < 205) (hE : m = 205 ∨ rdE T n m) : i < m := by
  rcases hE with e | ⟨q, b, so, pl, w, nu, nx, e, c1, c2, c3⟩
  · omega
  · rcases Nat.lt_or_ge i m with l | l
    · exact l
    · exfalso
      obtain ⟨b2, so2, pl2, w2, nu2, nx2, d1, d2, d3, d4⟩ := h.pre (q := q) (by omega)
      have eb := Chn.uniq c1 d1
      subst eb
      have := (c2.uniq d2).1
      omega
theorem CT.lt {T : Nat → Nat} {n m j so pl nu nx : Nat} {w : Int64} (h : CT T n j so pl w nu nx) (h205 : j < 205) (hE : m = 205 ∨ rdE T n m) : j < m := by
  obtain ⟨a, h1, _, _⟩ := h
  exact chn_lt h1 h205 hE
/-- what a line leaves alone of the reference -/
def mL (s z : zSt) : Prop := (∀ k, 28 ≤ k → zI z k = zI s k) ∧ zI z 1 = zI s 1 ∧ zA z 0 = zA s 0
theorem mK.mL {s z : zSt} (h : mK s z) : mL s z := ⟨fun k hk => h.1 k (by omega) (by omega) (by omega) (by omega) (by omega) (by omega), h.1 1 (by decide) (by decide) (by decide) (by decide) (by decide) (by decide), by rw [h.2.1]⟩
theorem mL.trans {a b c : zSt} (h : mL a b) (k : mL b c) : mL a c := ⟨fun i hi => (k.1 i hi).trans (h.1 i hi), k.2.1.trans h.2.1, k.2.2.trans h.2.2⟩
/-- a set by its members below b; how many they are -/
def bset (p : Nat → Bool) : Nat → Nat
  | 0 => 0
  | b + 1 => bset p b + if p b then 2 ^ b else 0
def bcnt (p : Nat → Bool) : Nat → Nat
  | 0 => 0
  | b + 1 => bcnt p b + if p b then 1 else 0
theorem bset_lt (p : Nat → Bool) : ∀ b, bset p b < 2 ^ b := by
  intro b
  induction b with
  | zero => exact Nat.one_pos
  | succ b ih =>
    show bset p b + (if p b then 2 ^ b else 0) < 2 ^ (b + 1)
    rw [Nat.pow_succ]
    split <;> omega
theorem bset_congr {p q : Nat → Bool} : ∀ b, (∀ i, i < b → p i = q i) → bset p b = bset q b := by
  intro b
  induction b with
  | zero => intro _; rfl
  | succ b ih => intro h; show bset p b + _ = bset q b + _; rw [ih (fun i hi => h i (by omega)), h b (by omega)]
theorem bcnt_congr {p q : Nat → Bool} : ∀ b, (∀ i, i < b → p i = q i) → bcnt p b = bcnt q b := by
  intro b
  induction b with
  | zero => intro _; rfl
  | succ b ih => intro h; show bcnt p b + _ = bcnt q b + _; rw [ih (fun i hi => h i (by omega)), h b (by omega)]
theorem bset_bit {p : Nat → Bool} {i : Nat} : ∀ b, i < b → bset p b / 2 ^ i % 2 = if p i then 1 else 0 := by
  intro b
  induction b with
  | zero => intro h; exact absurd h (by omega)
  | succ b ih =>
    intro h
    show (bset p b + if p b then 2 ^ b else 0) / 2 ^ i % 2 = _
    by_cases e : i = b
    · subst e
      have hl := bset_lt p i
      by_cases q : p i = true
      · rw [if_pos q, if_pos q, Nat.add_div_right _ (Nat.two_pow_pos i), Nat.div_eq_of_lt hl]
      · rw [if_neg q, if_neg q, Nat.add_zero, Nat.div_eq_of_lt hl]
    · rw [← ih (by omega)]
      by_cases q : p b = true
      · rw [if_pos q]
        obtain ⟨r, hr⟩ : ∃ r, b = i + 1 + r := ⟨b - i - 1, by omega⟩
        have : 2 ^ b = 2 ^ i * (2 * 2 ^ r) := by rw [hr, Nat.pow_add, Nat.pow_succ, Nat.mul_assoc]
        rw [this, Nat.add_mul_div_left _ _ (Nat.two_pow_pos i)]
        omega
      · rw [if_neg q, Nat.add_zero]
def isB (V : zSt) (i : Nat) : Bool := decide (¬ zA V 7 i = -1)
/-- the lines told so far, on both sides -/
def LR (M V : zSt) (h b k e d : Nat) : Prop :=
  (zI M 22 = nI h ∧ zI M 23 = nI b ∧ zI M 24 = nI k ∧ zI M 25 = nI (b - k) ∧ zI M 26 = nI e ∧ zI M 27 = nI d) ∧
  (zI V 0 = nI h ∧ zI V 3 = nI b ∧ zI V 9 = nI k ∧ zI V 12 = nI e ∧ zI V 11 = nI d) ∧
  (h ≤ 3 ∧ k ≤ 9 ∧ k ≤ b ∧ b - k ≤ 2 ∧ e ≤ 4 ∧ d ≤ 20) ∧
  ((∀ i, i < h → zB M 10 i = zB V 1 i) ∧ (∀ i l, i < h → l < h → zB V 1 i = zB V 1 l → i = l)) ∧
  ((∀ i, i < b → zB M 10 (16 + i) = zB V 4 i ∧ zA M 11 i = zA V 5 i ∧ zA M 12 i = zA V 6 i ∧ zA M 13 i = zA V 7 i ∧ zA M 15 i = zA V 10 i) ∧ (∀ i l, i < b → l < b → zB V 4 i = zB V 4 l → i = l) ∧ ∀ i, i < b → 1 ≤ (zA V 6 i).toInt) ∧
  ((∀ i, i < e → zB M 10 (32 + i) = zB V 13 i ∧ zA M 14 i = zA V 14 i) ∧ (∀ i l, i < e → l < e → zB V 13 i = zB V 13 l → i = l)) ∧
  (zI V 8 = nI (bset (isB V) b) ∧ k = bcnt (isB V) b ∧ I_Valley V)
/-- rows of a valley that a line leaves alone -/
def KP (ks : List Nat) (V v : zSt) : Prop := (ks.contains 1 = true → zB v 1 = zB V 1) ∧ (ks.contains 4 = true → zB v 4 = zB V 4) ∧ (ks.contains 13 = true → zB v 13 = zB V 13) ∧ (ks.contains 5 = true → zA v 5 = zA V 5) ∧ (ks.contains 6 = true → zA v 6 = zA V 6) ∧ (ks.contains 7 = true → zA v 7 = zA V 7) ∧ (ks.contains 10 = true → zA v 10 = zA V 10) ∧ (ks.contains 14 = true → zA v 14 = zA V 14)
theorem LR.mg {ks : List Nat} {M V v : zSt} {h b k e d : Nat} (hL : LR M v h b k e d) (hV : I_Valley V) (hk : KP ks V v) : LR M (zmg ks v V) h b k e d := by
  obtain ⟨k1, k4, k13, k5, k6, k7, k10, k14⟩ := hk
  have f : ∀ r, (ks.contains r = true → zA v r = zA V r) → zA (zmg ks v V) r = zA v r := fun r q => by
    rw [zA_mg]
    by_cases c : ks.contains r = true
    · rw [if_pos c, q c]
    · rw [if_neg c]
  have g : ∀ r, (ks.contains r = true → zB v r = zB V r) → zB (zmg ks v V) r = zB v r := fun r q => by
    rw [zB_mg]
    by_cases c : ks.contains r = true
    · rw [if_pos c, q c]
    · rw [if_neg c]
  have hi : isB (zmg ks v V) = isB v := by
    funext i
    unfold isB
    rw [f 7 k7]
  obtain ⟨l, w, x, n1, n2, n3, n4, n5, n6⟩ := hL
  refine ⟨l, w, x, ?_, ?_, ?_, ?_, ?_, ?_⟩
  · rw [g 1 k1]; exact n1
  · rw [g 4 k4, f 5 k5, f 6 k6, f 7 k7, f 10 k10]; exact n2
  · rw [g 13 k13, f 14 k14]; exact n3
  · rw [hi]; exact n4
  · rw [hi]; exact n5
  · exact IS.mg ks n6 hV
/-- a line's outcome on both sides: the same fault, or all told, the j-th token at hand -/
def LO (T : Nat → Nat) (n j : Nat) (M : zSt) (P : zSt → zSt → Prop) (sT : zSt) (c : Int32 × zSt × zSt) (z : zSt) : Prop :=
  mL M z ∧ ((c.1 = 0 ∧ I_Valley c.2.2 ∧ ∃ F pl, 0 < F ∧ F ≤ 5 ∧ tF c.2.1 F pl ∧ mF z F pl) ∨
  (c.1 = 1 ∧ zI c.2.1 3 = nI j ∧ zI c.2.1 0 = zI sT 0 ∧ zI c.2.1 1 = zI sT 1 ∧ zI z 2 = 0 ∧ (∃ so pl w nu nx, moC z T n j so pl w nu nx) ∧ P z c.2.2))
theorem moC.of {z y : zSt} {T : Nat → Nat} {n j so pl nu nx : Nat} {w : Int64} (h : moC z T n j so pl w nu nx) (e : ∀ i, i < 9 → zI y i = zI z i) (eL : zL y 9 = zL z 9) (eA : zA y 0 = zA z 0) : moC y T n j so pl w nu nx := by
  obtain ⟨⟨t1, t2, t3, t4⟩, c2, c3, c4, c5, c6, c7, c8⟩ := h
  exact ⟨⟨t1, by rw [e 5 (by decide)]; exact t2, t3, by rw [eA]; exact t4⟩, c2, by rw [e 6 (by decide)]; exact c3, by rw [e 7 (by decide)]; exact c4, by rw [eL]; exact c5, by rw [e 8 (by decide)]; exact c6, by rw [e 4 (by decide)]; exact c7, by rw [e 3 (by decide)]; exact c8⟩
/-- the end of a line of the reference -/
theorem Mo_lineEnd_F {N : Nat} {z : zSt} {F pl : Nat} (h : mF z F pl) (h0 : 0 < F) (h5 : F ≤ 5) : Mo_readLine_b132 N z = some z := by
  have hn := (h.ne h0 h5).2
  unfold Mo_readLine_b132 Mo_readLine_b153
  rw [if_neg hn, if_neg hn]
theorem Mo_lineEnd_ok {N : Nat} (hN : 1600 ≤ N) {T : Nat → Nat} {n j so pl nu nx : Nat} {w : Int64} {s : zSt} (h : moC s T n j so pl w nu nx) (h2 : zI s 2 = 0) :
    (so = 59 → ∃ z, Mo_readLine_b132 N s = some z ∧ mG s z T n (j + 1)) ∧ (¬ so = 59 → ∃ z, Mo_readLine_b132 N s = some z ∧ mK s z ∧ mF z (zfl so 2) pl) := by
  have h6 := h.2.2.1
  have hso := h.2.1.so
  unfold Mo_readLine_b132
  rw [if_pos h2, h6]
  constructor
  · intro a
    rw [if_pos (by rw [a]; rfl)]
    unfold Mo_readLine_b153
    rw [if_pos h2]
    obtain ⟨z, e, q1, q2, t1, t2, t3, t4, t5, q3⟩ := Mo_token_G hN h h2 (by omega) (by omega)
    rw [e]
    exact ⟨_, rfl, q1.mg, q2, t1, t2, t3, t4, t5, q3.mg q1.2.1⟩
  · intro a
    rw [if_neg (fun q => a ((zeqL (k := 59) (by omega) (by decide)).mp q))]
    obtain ⟨z, e, q1, q2, q3⟩ := Mo_wrong_ok (N := N) h h2 2
    rw [show (2 : Int32) = nI 2 from rfl, e]
    simp only [zbs]
    unfold Mo_readLine_b153
    have q4 : mF (zmg [0, 10, 11, 12, 13, 14, 15] z s) (zfl so 2) pl := q2
    rw [if_neg (q4.ne (zfl_pos (by decide)) (zfl_le (by decide))).2]
    exact ⟨_, rfl, q1.mg, q4⟩
/-- the sign that ends a line, on both sides -/
theorem close_ok {N : Nat} (hN : 1600 ≤ N) {T : Nat → Nat} {n m j so pl nu nx : Nat} {w : Int64} {zz t sR : zSt} (hm : moC zz T n j so pl w nu nx) (h2 : zI zz 2 = 0) (hR : rdR sR T n m) (hE : m = 205 ∨ rdE T n m) (hj : j < 205) (h3 : zI t 3 = nI j) :
    (so = 59 ∧ ∃ t' z, Teller_take N t sR 4 = some (1, t') ∧ Mo_readLine_b132 N zz = some z ∧ tG t t' j ∧ mG zz z T n (j + 1)) ∨
    (∃ t' z F P, Teller_take N t sR 4 = some (0, t') ∧ Mo_readLine_b132 N zz = some z ∧ 0 < F ∧ F ≤ 5 ∧ tF t' F P ∧ mK zz z ∧ mF z F P) := by
  have hc := hm.2.1
  obtain ⟨sy, sn⟩ := Teller_take_ok (N := N) hR (hc.lt hj hE) hc h3 4 (by decide) (by decide)
  obtain ⟨ey1, ey2⟩ := Mo_lineEnd_ok (N := N) hN hm h2
  by_cases h59 : so = 59
  · obtain ⟨t', e5, q1, _, _, _⟩ := sy ((zcode_s hc.so).mpr h59)
    obtain ⟨z, ez, z1⟩ := ey1 h59
    exact Or.inl ⟨h59, t', z, e5, ez, q1, z1⟩
  · obtain ⟨t', e5, q1⟩ := sn (fun q => h59 ((zcode_s hc.so).mp q))
    obtain ⟨z, ez, z1, z2⟩ := ey2 h59
    exact Or.inr ⟨t', z, _, _, e5, ez, zfl_pos (by decide), zfl_le (by decide), q1, z1, z2⟩
