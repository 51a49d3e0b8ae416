/-! the token at hand: of the text, of the reference, of the Teller -/
theorem Tk.ex {T : Nat → Nat} {n a : Nat} (han : a ≤ n) : ∃ so pl w nu nx, Tk T n a so pl w nu nx := by
  obtain ⟨p, hp⟩ := isRun.ex T n zbl (n - a) a (Nat.le_refl _)
  by_cases hc : p < n
  · by_cases hl : zle_ (T p) = true
    · obtain ⟨q, hq⟩ := isRun.ex T n zle_ (n - p) p (Nat.le_refl _)
      exact ⟨_, p, _, _, _, hp, Or.inr (Or.inl ⟨hc, hl, q, hq, rfl, rfl, rfl, rfl⟩)⟩
    · by_cases hd : zdi (T p) = true
      · obtain ⟨q, hq⟩ := isRun.ex T n zdi (n - p) p (Nat.le_refl _)
        exact ⟨_, p, _, _, _, hp, Or.inr (Or.inr (Or.inl ⟨hc, hd, q, hq, rfl, rfl, rfl, rfl⟩))⟩
      · have hl : zle_ (T p) = false := by cases h : zle_ (T p) with | true => exact absurd h hl | false => rfl
        have hd : zdi (T p) = false := by cases h : zdi (T p) with | true => exact absurd h hd | false => rfl
        exact ⟨_, p, _, _, _, hp, Or.inr (Or.inr (Or.inr ⟨hc, hl, hd, rfl, rfl, rfl, rfl⟩))⟩
  · exact ⟨_, p, _, _, _, hp, Or.inl ⟨by omega, rfl, rfl, rfl, rfl⟩⟩
theorem isRun.lt {T : Nat → Nat} {n : Nat} {P : Nat → Bool} {p q : Nat} (h : isRun T n P p q) (hc : p < n) (hp : P (T p) = true) : p < q := by
  rcases Nat.lt_or_ge p q with l | l
  · exact l
  · have : q = p := by have := h.1; omega
    subst this
    rw [h.2.2 hc] at hp
    exact absurd hp (by decide)
/-- the next token begins in the text, and farther on -/
theorem Tk.nx {T : Nat → Nat} {n a so pl nu nx : Nat} {w : Int64} (h : Tk T n a so pl w nu nx) (han : a ≤ n) : nx ≤ n ∧ pl ≤ n ∧ a ≤ pl ∧ (so ≠ 0 → so ≠ 3 → a < nx) := by
  obtain ⟨h1, h2⟩ := h
  have hp := h1.le han
  have ha := h1.1
  rcases h2 with ⟨a1, a2, a3, a4, a5⟩ | ⟨a1, a2, q, a3, a4, a5, a6, a7⟩ | ⟨a1, a2, q, a3, a4, a5, a6, a7⟩ | ⟨a1, a2, a3, a4, a5, a6, a7⟩
  · exact ⟨by omega, hp, ha, fun h => absurd a2 h⟩
  · have hq := a3.le hp
    have hl := a3.lt a1 a2
    by_cases h8 : q - pl ≤ 8
    · rw [if_pos h8] at a7; exact ⟨by omega, hp, ha, fun _ _ => by omega⟩
    · rw [if_neg h8] at a7 a4; exact ⟨by omega, hp, ha, fun _ h => absurd a4 h⟩
  · have hq := a3.le hp
    have hl := a3.lt a1 a2
    by_cases h8 : q - pl ≤ 4 ∧ ¬ (q < n ∧ zle_ (T q) = true)
    · rw [if_pos h8] at a7; exact ⟨by omega, hp, ha, fun _ _ => by omega⟩
    · rw [if_neg h8] at a7 a4; exact ⟨by omega, hp, ha, fun _ h => absurd a4 h⟩
  · by_cases h8 : T pl = 59
    · rw [if_pos h8] at a7; exact ⟨by omega, hp, ha, fun _ _ => by omega⟩
    · rw [if_neg h8] at a7 a4; exact ⟨by omega, hp, ha, fun _ h => absurd a4 h⟩
/-- a number is below 10,000 -/
theorem Tk.nu {T : Nat → Nat} {n a so pl nu nx : Nat} {w : Int64} (h : Tk T n a so pl w nu nx) : nu < 10000 := by
  rcases h.2 with ⟨a1, a2, a3, a4, a5⟩ | ⟨a1, a2, q, a3, a4, a5, a6, a7⟩ | ⟨a1, a2, q, a3, a4, a5, a6, a7⟩ | ⟨a1, a2, a3, a4, a5, a6, a7⟩
  · omega
  · omega
  · rw [a6]
    have hq := a3.1
    by_cases h8 : q - pl ≤ 4
    · rw [if_pos h8]
      have h1 := znum_lt a3 (q - pl) (by omega)
      have : 10 ^ (q - pl) ≤ 10 ^ 4 := Nat.pow_le_pow_right (by decide) h8
      omega
    · rw [if_neg h8]
      exact znum_lt a3 4 (by omega)
  · omega
/-- the j-th token of the text -/
def CT (T : Nat → Nat) (n j so pl : Nat) (w : Int64) (nu nx : Nat) : Prop := ∃ a, Chn T n j a ∧ a ≤ n ∧ Tk T n a so pl w nu nx
theorem CT.uniq {T : Nat → Nat} {n j so pl nu nx so2 pl2 nu2 nx2 : Nat} {w w2 : Int64} (h : CT T n j so pl w nu nx) (k : CT T n j so2 pl2 w2 nu2 nx2) : so = so2 ∧ pl = pl2 ∧ w = w2 ∧ nu = nu2 ∧ nx = nx2 := by
  obtain ⟨a, h1, h2, h3⟩ := h
  obtain ⟨b, k1, k2, k3⟩ := k
  have e := h1.uniq k1
  subst e
  exact h3.uniq k3
/-- the reference stands at the j-th token -/
def moC (s : zSt) (T : Nat → Nat) (n j so pl : Nat) (w : Int64) (nu nx : Nat) : Prop := moT s T n ∧ CT T n j so pl w nu nx ∧ zI s 6 = nI so ∧ zI s 7 = nI pl ∧ zL s 9 = w ∧ zI s 8 = nI nu ∧ zI s 4 = nI nx ∧ zI s 3 = -1
theorem Mo_token_step {N : Nat} (hN : 1600 ≤ N) {T : Nat → Nat} {n j so pl nu nx : Nat} {w : Int64} {s : zSt} (h : moC s T n j so pl w nu nx) (h0 : so ≠ 0) (h3 : so ≠ 3) :
    zok (Mo_token N s) (fun z => moK s z ∧ ∃ so' pl' w' nu' nx', moC z T n (j + 1) so' pl' w' nu' nx') := by
  obtain ⟨hT, ⟨a, c1, c2, c3⟩, e6, e7, e9, e8, e4, e3⟩ := h
  have hnx := (c3.nx c2).1
  refine zok_mono (Mo_token_spec hN hT e4 hnx) (fun z hz => ?_)
  obtain ⟨z1, so', pl', w', nu', nx', z2, z3, z4, z5, z6, z7⟩ := hz
  exact ⟨z1, so', pl', w', nu', nx', hT.mv z1, ⟨nx, ⟨a, so, pl, w, nu, c1, c3, h0, h3⟩, hnx, z2⟩, z3, z4, z5, z6, z7, by rw [z1.1 3 (by decide) (by decide) (by decide) (by decide)]; exact e3⟩
/-- a fault of the reference -/
theorem Mo_wrong_eq {N : Nat} {s : zSt} {v : Int32} (h2 : zI s 2 = 0) : Mo_wrong N s v = some (zpI (zpI s 2 (if zI s 6 = 3 then 1 else v)) 3 (zI s 7)) := by
  unfold Mo_wrong Mo_wrong_b0
  rw [h2, if_pos (by decide)]
  by_cases h : zI s 6 = 3
  · rw [if_pos h, if_pos h]; rfl
  · rw [if_neg h, if_neg h]; rfl
/-- the Teller takes the j-th token -/
theorem Teller_take_eq {N : Nat} {T : Nat → Nat} {n m j so pl nu nx : Nat} {w : Int64} {sT sR : zSt} (hR : rdR sR T n m) (hj : j < m) (hc : CT T n j so pl w nu nx) (h3 : zI sT 3 = nI j) (v : Nat) (hv : v < 5) (hv1 : v ≠ 1) :
    ∃ b : Int64, (so = 1 → b = w) ∧ (so = 2 → b = lN nu) ∧ Teller_take N sT sR (nI v) = some (if zcode so = v then (1, zpI (zpL (zpI sT 4 (nI pl)) 5 b) 3 (nI (j + 1))) else (0, zpI (zpI (zpI (zpL (zpI sT 4 (nI pl)) 5 b) 3 (nI (j + 1))) 0 (if so = 3 then 1 else 2)) 1 (nI pl))) := by
  obtain ⟨r0, rm, r3⟩ := hR
  obtain ⟨a1, so1, pl1, w1, nu1, nx1, d1, d2, d3, d4, d5, d6, d7, d8⟩ := r3 j hj
  obtain ⟨e1, e2, e3, e4, e5⟩ := CT.uniq ⟨a1, d1, d2, d3⟩ hc
  subst e1 e2 e3 e4 e5
  have hso := d3.so
  have hz5 := zcode_lt so1
  refine ⟨zB sR 3 j, d6, d7, ?_⟩
  unfold Teller_take Teller_take_b0
  rw [h3, r0, if_pos ((nI_ltI (by omega) (by omega)).mpr hj), zck_in (vp_in_nI (by omega) (by decide)), zck_in (vp_in_nI (by omega) (by decide)), zck_in (vp_in_nI (by omega) (by decide)), nI_clamp (by omega), d4, d5, nI_1]
  by_cases hb : so1 = 3
  · have hz : zcode so1 = 1 := (zcode_1 hso).mpr hb
    rw [hz, if_pos (show nI 1 = (1 : Int32) from rfl), if_neg (fun q => hv1 q.symm), if_pos hb]
    unfold Teller_refuse Teller_refuse_b0
    simp only [zbs]
    rw [zcb_in (Or.inl rfl)]
    rfl
  · have hz : zcode so1 ≠ 1 := fun q => hb ((zcode_1 hso).mp q)
    rw [if_neg (fun q => hz ((zeqL (k := 1) (by omega) (by decide)).mp q))]
    by_cases he : zcode so1 = v
    · rw [if_pos (show nI (zcode so1) = nI v by rw [he]), if_pos he]
      rfl
    · rw [if_neg (fun q => he ((nI_eq (by omega) (by omega)).mp q)), if_neg he, if_neg hb]
      unfold Teller_refuse Teller_refuse_b0
      simp only [zbs]
      rw [if_pos trivial]
      rfl
theorem lg_cmp_0 {a b : Int64} : lg_cmp a b = 0 ↔ a = b := by
  unfold lg_cmp
  constructor
  · intro h
    split at h
    · exact absurd h (by decide)
    · split at h
      · assumption
      · exact absurd h (by decide)
  · intro h
    subst h
    simp
