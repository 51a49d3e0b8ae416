/-! dealt: rows of tones that are known, on both sides alike -/
def sm (f : Nat → Int) : Nat → Int
  | 0 => 0
  | k + 1 => sm f k + f k
theorem sm_congr {f g : Nat → Int} : ∀ k, (∀ j, j < k → f j = g j) → sm f k = sm g k := by
  intro k
  induction k with
  | zero => intro _; rfl
  | succ k ih => intro h; show sm f k + f k = sm g k + g k; rw [ih (fun j hj => h j (by omega)), h k (by omega)]
theorem sm_add {f g : Nat → Int} : ∀ k, sm (fun j => f j + g j) k = sm f k + sm g k := by
  intro k
  induction k with
  | zero => rfl
  | succ k ih => show sm _ k + (f k + g k) = sm f k + f k + (sm g k + g k); rw [ih]; omega
theorem sm_sub {f g : Nat → Int} : ∀ k, sm (fun j => f j - g j) k = sm f k - sm g k := by
  intro k
  induction k with
  | zero => rfl
  | succ k ih => show sm _ k + (f k - g k) = sm f k + f k - (sm g k + g k); rw [ih]; omega
theorem sm_zero : ∀ k, sm (fun _ => 0) k = 0 := by
  intro k
  induction k with
  | zero => rfl
  | succ k ih => show sm _ k + 0 = 0; rw [ih]; rfl
theorem sm_out {v : Nat → Int} {i : Nat} : ∀ k, k ≤ i → sm (fun j => if j = i then v j else 0) k = 0 := by
  intro k
  induction k with
  | zero => intro _; rfl
  | succ k ih => intro h; show sm _ k + (if k = i then v k else 0) = 0; rw [ih (by omega), if_neg (by omega)]; rfl
theorem sm_one {v : Nat → Int} {i : Nat} : ∀ k, i < k → sm (fun j => if j = i then v j else 0) k = v i := by
  intro k
  induction k with
  | zero => intro h; exact absurd h (by omega)
  | succ k ih =>
    intro h
    show sm _ k + (if k = i then v k else 0) = v i
    by_cases q : k = i
    · rw [if_pos q, sm_out k (by omega), q]; omega
    · rw [if_neg q, ih (by omega)]; omega
/-- what the beasts of a set take from the chord -/
def tk (v : Nat → Int) (k a : Nat) : Int := sm (fun j => if a / 2 ^ j % 2 = 1 then v j else 0) k
theorem bits0 : ∀ x, x < 9 → ¬ (0 / 2 ^ x % 2 = 1) := by decide
theorem bits1 : ∀ i, i < 8 → ∀ x, x < 9 → (2 ^ i / 2 ^ x % 2 = 1 ↔ x = i) := by decide +kernel
theorem bits2 : ∀ i, i < 8 → ∀ j, j < i → ∀ x, x < 9 → ((2 ^ i + 2 ^ j) / 2 ^ x % 2 = 1 ↔ (x = i ∨ x = j)) := by decide +kernel
theorem cbt0 : cbt 0 9 = 0 := by decide
theorem cbt1 : ∀ i, i < 8 → cbt (2 ^ i) 9 = 1 := by decide +kernel
theorem cbt2 : ∀ i, i < 8 → ∀ j, j < i → cbt (2 ^ i + 2 ^ j) 9 = 2 := by decide +kernel
theorem cbt_cases : ∀ a, a < 256 → cbt a 9 ≤ 2 → a = 0 ∨ (∃ i, i < 8 ∧ a = 2 ^ i) ∨ ∃ i, i < 8 ∧ ∃ j, j < i ∧ a = 2 ^ i + 2 ^ j := by decide +kernel
theorem cbt_one : ∀ a, a < 256 → cbt a 9 ≤ 1 → a = 0 ∨ ∃ i, i < 8 ∧ a = 2 ^ i := by decide +kernel
theorem tk0 {v : Nat → Int} {k : Nat} (hk : k ≤ 8) : tk v k 0 = 0 := by
  unfold tk
  rw [sm_congr (g := fun _ => 0) k (fun j hj => if_neg (bits0 j (by omega))), sm_zero]
theorem tk1 {v : Nat → Int} {k i : Nat} (hk : k ≤ 8) (hi : i < k) : tk v k (2 ^ i) = v i := by
  unfold tk
  rw [sm_congr (g := fun j => if j = i then v j else 0) k (fun j hj => ?_), sm_one k hi]
  have := bits1 i (by omega) j (by omega)
  by_cases q : j = i
  · rw [if_pos (this.mpr q), if_pos q]
  · rw [if_neg (fun c => q (this.mp c)), if_neg q]
theorem tk2 {v : Nat → Int} {k i j : Nat} (hk : k ≤ 8) (hi : i < k) (hj : j < i) : tk v k (2 ^ i + 2 ^ j) = v i + v j := by
  unfold tk
  rw [sm_congr (g := fun x => (if x = i then v x else 0) + (if x = j then v x else 0)) k (fun x hx => ?_), sm_add, sm_one k hi, sm_one k (by omega)]
  have := bits2 i (by omega) j hj x (by omega)
  by_cases q : x = i
  · rw [if_pos (this.mpr (Or.inl q)), if_pos q, if_neg (by omega)]; omega
  · by_cases r : x = j
    · rw [if_pos (this.mpr (Or.inr r)), if_neg q, if_pos r]; omega
    · rw [if_neg (fun c => (this.mp c).elim q r), if_neg q, if_neg r]; rfl
theorem pow_lt_of {i k : Nat} (h : 2 ^ i < 2 ^ k) : i < k := (Nat.pow_lt_pow_iff_right (by decide)).mp h
theorem pow2_lt {i j k : Nat} (h : 2 ^ i + 2 ^ j < 2 ^ k) : i < k := pow_lt_of (by have := Nat.two_pow_pos j; omega)
/-- as loud as it is, where its tone is t -/
def vt (L w : Nat → Nat) (t : Nat) (j : Nat) : Int := if w j = t then (L j : Int) else 0
/-- sets of at most m never take the same -/
def refOK (L w : Nat → Nat) (m k : Nat) : Prop := ∀ a b, b < a → a < 2 ^ k → cbt a 9 ≤ m → cbt b 9 ≤ m → ¬ ∀ t, t < 12 → tk (vt L w t) k a = tk (vt L w t) k b
/-- a beast is known beside those ahead of it -/
def kn (L w : Nat → Nat) (m d t : Nat) : Prop := (∀ a, a < d → ¬ (w a = t ∧ L a = L d)) ∧ (m = 1 ∨ ∀ a b, b < a → a < d → w a = t → w b = t → L a + L b ≠ L d ∧ L a + L d ≠ L b ∧ L b + L d ≠ L a ∧ ¬ ∃ c, c < d ∧ w c = t ∧ L c + L d = L a + L b)
theorem kn_of_ref {L w : Nat → Nat} {m k : Nat} (hk : k ≤ 8) (hm : m = 1 ∨ m = 2) (h : refOK L w m k) : ∀ d, d < k → kn L w m d (w d) := by
  have one : ∀ d a, d < k → a < d → ¬ (w a = w d ∧ L a = L d) := by
    intro d a hd ha q
    refine h (2 ^ d) (2 ^ a) (Nat.pow_lt_pow_right (by decide) ha) (Nat.pow_lt_pow_right (by decide) hd) (by rw [cbt1 d (by omega)]; omega) (by rw [cbt1 a (by omega)]; omega) (fun t _ => ?_)
    rw [tk1 hk hd, tk1 hk (by omega)]
    unfold vt
    rw [q.1, q.2]
  intro d hd
  refine ⟨fun a ha q => one d a hd ha q, ?_⟩
  rcases hm with hm | hm
  · exact Or.inl hm
  refine Or.inr (fun a b hb ha wa wb => ?_)
  have pa : 2 ^ (a + 1) ≤ 2 ^ d := Nat.pow_le_pow_right (by decide) ha
  have pb : 2 ^ b < 2 ^ a := Nat.pow_lt_pow_right (by decide) hb
  have pd : 2 ^ (d + 1) ≤ 2 ^ k := Nat.pow_le_pow_right (by decide) hd
  rw [Nat.pow_succ] at pa pd
  have z1 := Nat.two_pow_pos a
  have z2 := Nat.two_pow_pos b
  have z3 := Nat.two_pow_pos d
  have two : ∀ x y, x < d → y < x → 2 ^ x + 2 ^ y < 2 ^ d := fun x y hx hy => by
    have h1 : 2 ^ (x + 1) ≤ 2 ^ d := Nat.pow_le_pow_right (by decide) hx
    have h2 : 2 ^ y < 2 ^ x := Nat.pow_lt_pow_right (by decide) hy
    rw [Nat.pow_succ] at h1
    omega
  refine ⟨fun q => ?_, fun q => ?_, fun q => ?_, ?_⟩
  · refine h (2 ^ d) (2 ^ a + 2 ^ b) (two a b ha hb) (by omega) (by rw [cbt1 d (by omega)]; omega) (by rw [cbt2 a (by omega) b hb]; omega) (fun t _ => ?_)
    rw [tk1 hk hd, tk2 hk (by omega) hb]
    unfold vt
    rw [wa, wb]
    split <;> omega
  · refine h (2 ^ d + 2 ^ a) (2 ^ b) (by omega) (by omega) (by rw [cbt2 d (by omega) a ha]; omega) (by rw [cbt1 b (by omega)]; omega) (fun t _ => ?_)
    rw [tk2 hk hd ha, tk1 hk (by omega)]
    unfold vt
    rw [wa, wb]
    split <;> omega
  · refine h (2 ^ d + 2 ^ b) (2 ^ a) (by omega) (by omega) (by rw [cbt2 d (by omega) b (by omega)]; omega) (by rw [cbt1 a (by omega)]; omega) (fun t _ => ?_)
    rw [tk2 hk hd (by omega), tk1 hk (by omega)]
    unfold vt
    rw [wa, wb]
    split <;> omega
  · rintro ⟨c, hc, wc, q⟩
    by_cases ca : c = a
    · subst ca
      exact one d b hd (by omega) ⟨wb, by omega⟩
    by_cases cb : c = b
    · subst cb
      exact one d a hd ha ⟨wa, by omega⟩
    have pc : 2 ^ c < 2 ^ d := Nat.pow_lt_pow_right (by decide) hc
    have z4 := Nat.two_pow_pos c
    refine h (2 ^ d + 2 ^ c) (2 ^ a + 2 ^ b) (by have := two a b ha hb; omega) (by omega) (by rw [cbt2 d (by omega) c hc]; omega) (by rw [cbt2 a (by omega) b hb]; omega) (fun t _ => ?_)
    rw [tk2 hk hd hc, tk2 hk (by omega) hb]
    unfold vt
    rw [wa, wb, wc]
    split <;> omega
/-- the same, without an order -/
def P1 (L w : Nat → Nat) (k : Nat) : Prop := ∀ i j, i < k → j < k → ¬ i = j → ¬ (w i = w j ∧ L i = L j)
def P2 (L w : Nat → Nat) (k : Nat) : Prop := ∀ i j c, i < k → j < k → c < k → ¬ i = j → ¬ i = c → ¬ j = c → w i = w j → w i = w c → L i + L j ≠ L c
def P3 (L w : Nat → Nat) (k : Nat) : Prop := ∀ i j c d, i < k → j < k → c < k → d < k → ¬ i = j → ¬ i = c → ¬ i = d → ¬ j = c → ¬ j = d → ¬ c = d → w i = w j → w i = w c → w i = w d → L i + L j ≠ L c + L d
theorem P1_of {L w : Nat → Nat} {m k : Nat} (h : ∀ d, d < k → kn L w m d (w d)) : P1 L w k := by
  intro i j hi hj hij q
  rcases Nat.lt_or_ge i j with l | l
  · exact (h j hj).1 i l q
  · exact (h i hi).1 j (by omega) ⟨q.1.symm, q.2.symm⟩
theorem kn2 {L w : Nat → Nat} {k d a b : Nat} (h : ∀ d, d < k → kn L w 2 d (w d)) (hd : d < k) (ha : a < d) (hb : b < d) (hab : ¬ a = b) (wa : w a = w d) (wb : w b = w d) : L a + L b ≠ L d ∧ L a + L d ≠ L b ∧ L b + L d ≠ L a ∧ ¬ ∃ c, c < d ∧ w c = w d ∧ L c + L d = L a + L b := by
  have hk := ((h d hd).2).resolve_left (by decide)
  rcases Nat.lt_or_ge b a with l | l
  · exact hk a b l ha wa wb
  · obtain ⟨q1, q2, q3, q4⟩ := hk b a (by omega) hb wb wa
    exact ⟨by omega, q3, q2, fun ⟨c, c1, c2, c3⟩ => q4 ⟨c, c1, c2, by omega⟩⟩
theorem P2_of {L w : Nat → Nat} {k : Nat} (h : ∀ d, d < k → kn L w 2 d (w d)) : P2 L w k := by
  intro i j c hi hj hc hij hic hjc e1 e2 q
  by_cases a1 : i < c ∧ j < c
  · exact (kn2 h hc a1.1 a1.2 hij e2 (by omega)).1 q
  by_cases a2 : c < i ∧ j < i
  · exact (kn2 h hi a2.2 a2.1 hjc (by omega) (by omega)).2.1 (by omega)
  · exact (kn2 h hj (show i < j by omega) (show c < j by omega) hic e1 (by omega)).2.1 (by omega)
theorem P3_max {L w : Nat → Nat} {k i j c d : Nat} (h : ∀ d, d < k → kn L w 2 d (w d)) (hd : d < k) (hi : i < d) (hj : j < d) (hc : c < d) (hij : ¬ i = j) (e1 : w i = w d) (e2 : w j = w d) (e3 : w c = w d) : L i + L j ≠ L c + L d := by
  intro q
  exact (kn2 h hd hi hj hij e1 e2).2.2.2 ⟨c, hc, e3, by omega⟩
theorem P3_of {L w : Nat → Nat} {k : Nat} (h : ∀ d, d < k → kn L w 2 d (w d)) : P3 L w k := by
  intro i j c d hi hj hc hd hij hic hid hjc hjd hcd e1 e2 e3 q
  by_cases a1 : i < d ∧ j < d ∧ c < d
  · exact P3_max h hd a1.1 a1.2.1 a1.2.2 hij (by omega) (by omega) (by omega) q
  by_cases a2 : i < c ∧ j < c ∧ d < c
  · exact P3_max h hc a2.1 a2.2.1 a2.2.2 hij (by omega) (by omega) (by omega) (by omega)
  by_cases a3 : c < i ∧ d < i ∧ j < i
  · exact P3_max h hi a3.1 a3.2.1 a3.2.2 hcd (by omega) (by omega) (by omega) (by omega)
  · exact P3_max h hj (show c < j by omega) (show d < j by omega) (show i < j by omega) hcd (by omega) (by omega) (by omega) (by omega)
theorem vt_p {L w : Nat → Nat} {t j : Nat} (h : w j = t) : vt L w t j = L j := if_pos h
theorem vt_n {L w : Nat → Nat} {t j : Nat} (h : ¬ w j = t) : vt L w t j = 0 := if_neg h
theorem vt_0 (L w : Nat → Nat) (t j : Nat) : 0 ≤ vt L w t j := by unfold vt; split <;> omega
theorem E11 {L w : Nat → Nat} {k i c : Nat} (hL : ∀ j, j < k → 1 ≤ L j) (hw : ∀ j, j < k → w j < 12) (h1 : P1 L w k) (hi : i < k) (hc : c < k) (hic : ¬ i = c) (q : ∀ t, t < 12 → vt L w t i = vt L w t c) : False := by
  have a := q (w i) (hw i hi)
  have l := hL i hi
  rw [vt_p rfl] at a
  by_cases e : w c = w i
  · rw [vt_p e] at a
    exact h1 i c hi hc hic ⟨e.symm, by omega⟩
  · rw [vt_n e] at a
    omega
theorem E21 {L w : Nat → Nat} {k i j c : Nat} (hL : ∀ j, j < k → 1 ≤ L j) (hw : ∀ j, j < k → w j < 12) (h2 : P2 L w k) (hi : i < k) (hj : j < k) (hc : c < k) (hij : ¬ i = j) (q : ∀ t, t < 12 → vt L w t i + vt L w t j = vt L w t c) : False := by
  have li := hL i hi
  have lj := hL j hj
  by_cases ic : i = c
  · have a := q (w j) (hw j hj)
    rw [ic, vt_p (j := j) rfl] at a
    omega
  by_cases jc : j = c
  · have a := q (w i) (hw i hi)
    rw [jc, vt_p (j := i) rfl] at a
    omega
  have a := q (w i) (hw i hi)
  have b := q (w j) (hw j hj)
  have a0 := vt_0 L w (w i) j
  have b0 := vt_0 L w (w j) i
  rw [vt_p (j := i) rfl] at a
  rw [vt_p (j := j) rfl] at b
  have e1 : w c = w i := by
    by_cases e : w c = w i
    · exact e
    · rw [vt_n e] at a; omega
  have e2 : w c = w j := by
    by_cases e : w c = w j
    · exact e
    · rw [vt_n e] at b; omega
  rw [vt_p e1, vt_p (show w j = w i by omega)] at a
  exact h2 i j c hi hj hc hij ic jc (by omega) (by omega) (by omega)
theorem E22 {L w : Nat → Nat} {k i j c d : Nat} (hL : ∀ j, j < k → 1 ≤ L j) (hw : ∀ j, j < k → w j < 12) (h1 : P1 L w k) (h3 : P3 L w k) (hi : i < k) (hj : j < k) (hc : c < k) (hd : d < k) (hij : ¬ i = j) (hcd : ¬ c = d) (hne : ¬ ((i = c ∧ j = d) ∨ (i = d ∧ j = c))) (q : ∀ t, t < 12 → vt L w t i + vt L w t j = vt L w t c + vt L w t d) : False := by
  have li := hL i hi
  have lj := hL j hj
  have lc := hL c hc
  have ld := hL d hd
  by_cases ic : i = c
  · exact E11 hL hw h1 hj hd (fun e => hne (Or.inl ⟨ic, e⟩)) (fun t ht => by have := q t ht; rw [ic] at this; omega)
  by_cases id_ : i = d
  · exact E11 hL hw h1 hj hc (fun e => hne (Or.inr ⟨id_, e⟩)) (fun t ht => by have := q t ht; rw [id_] at this; omega)
  by_cases jc : j = c
  · exact E11 hL hw h1 hi hd id_ (fun t ht => by have := q t ht; rw [jc] at this; omega)
  by_cases jd : j = d
  · exact E11 hL hw h1 hi hc ic (fun t ht => by have := q t ht; rw [jd] at this; omega)
  have a := q (w i) (hw i hi)
  rw [vt_p (j := i) rfl] at a
  by_cases B : w c = w i
  · by_cases C : w d = w i
    · by_cases A : w j = w i
      · rw [vt_p A, vt_p B, vt_p C] at a
        exact h3 i j c d hi hj hc hd hij ic id_ jc jd hcd (by omega) (by omega) (by omega) (by omega)
      · have b := q (w j) (hw j hj)
        have b0 := vt_0 L w (w j) i
        rw [vt_p (j := j) rfl, vt_n (j := c) (by omega), vt_n (j := d) (by omega)] at b
        omega
    · have b := q (w d) (hw d hd)
      rw [vt_p (j := d) rfl, vt_n (j := c) (by omega), vt_n (j := i) (by omega)] at b
      by_cases A : w j = w d
      · rw [vt_p A] at b
        exact h1 j d hj hd jd ⟨A, by omega⟩
      · rw [vt_n A] at b
        omega
  · by_cases C : w d = w i
    · have b := q (w c) (hw c hc)
      rw [vt_p (j := c) rfl, vt_n (j := d) (by omega), vt_n (j := i) (by omega)] at b
      by_cases A : w j = w c
      · rw [vt_p A] at b
        exact h1 j c hj hc jc ⟨A, by omega⟩
      · rw [vt_n A] at b
        omega
    · rw [vt_n B, vt_n C] at a
      have := vt_0 L w (w i) j
      omega
theorem ref_of_kn {L w : Nat → Nat} {m k : Nat} (hk : k ≤ 8) (hm : m = 1 ∨ m = 2) (hL : ∀ j, j < k → 1 ≤ L j) (hw : ∀ j, j < k → w j < 12) (h : ∀ d, d < k → kn L w m d (w d)) : refOK L w m k := by
  intro a b hab ha ca cb q
  have p1 := P1_of h
  have pk : 2 ^ k ≤ 2 ^ 8 := Nat.pow_le_pow_right (by decide) hk
  have pos : ∀ i, i < k → ¬ ∀ t, t < 12 → vt L w t i = 0 := fun i hi z => by
    have := z (w i) (hw i hi)
    rw [vt_p rfl] at this
    have := hL i hi
    omega
  -- the sets' forms
  have form : ∀ x, x < 2 ^ k → cbt x 9 ≤ m → x = 0 ∨ (∃ i, i < k ∧ x = 2 ^ i) ∨ (m = 2 ∧ ∃ i j, i < k ∧ j < i ∧ x = 2 ^ i + 2 ^ j) := by
    intro x hx hc
    rcases hm with hm | hm
    · rcases cbt_one x (by omega) (by omega) with e | ⟨i, _, e⟩
      · exact Or.inl e
      · exact Or.inr (Or.inl ⟨i, pow_lt_of (by omega), e⟩)
    · rcases cbt_cases x (by omega) (by omega) with e | ⟨i, _, e⟩ | ⟨i, _, j, hj, e⟩
      · exact Or.inl e
      · exact Or.inr (Or.inl ⟨i, pow_lt_of (by omega), e⟩)
      · exact Or.inr (Or.inr ⟨hm, i, j, pow2_lt (j := j) (by omega), hj, e⟩)
  rcases form a ha ca with ea | ⟨i, hi, ea⟩ | ⟨em, i, j, hi, hj, ea⟩
  · omega
  · rcases form b (by omega) cb with eb | ⟨c, hc, eb⟩ | ⟨em, c, d, hc, hd, eb⟩
    · exact pos i hi (fun t ht => by have := q t ht; rw [ea, eb, tk1 hk hi, tk0 hk] at this; exact this)
    · refine E11 hL hw p1 hi hc (fun e => by rw [ea, eb, e] at hab; omega) (fun t ht => ?_)
      have := q t ht
      rw [ea, eb, tk1 hk hi, tk1 hk hc] at this
      exact this
    · subst em
      refine E21 hL hw (P2_of h) hc (show d < k by omega) hi (by omega) (fun t ht => ?_)
      have := q t ht
      rw [ea, eb, tk1 hk hi, tk2 hk hc hd] at this
      exact this.symm
  · subst em
    rcases form b (by omega) cb with eb | ⟨c, hc, eb⟩ | ⟨_, c, d, hc, hd, eb⟩
    · refine pos i hi (fun t ht => ?_)
      have := q t ht
      rw [ea, eb, tk2 hk hi hj, tk0 hk] at this
      have := vt_0 L w t i
      have := vt_0 L w t j
      omega
    · refine E21 hL hw (P2_of h) hi (show j < k by omega) hc (by omega) (fun t ht => ?_)
      have := q t ht
      rw [ea, eb, tk2 hk hi hj, tk1 hk hc] at this
      exact this
    · refine E22 hL hw p1 (P3_of h) hi (show j < k by omega) hc (show d < k by omega) (by omega) (by omega) (fun e => ?_) (fun t ht => ?_)
      · rcases e with ⟨e1, e2⟩ | ⟨e1, e2⟩
        · rw [ea, eb, e1, e2] at hab; omega
        · omega
      · have := q t ht
        rw [ea, eb, tk2 hk hi hj, tk2 hk hc hd] at this
        exact this
