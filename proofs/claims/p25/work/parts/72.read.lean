/-! the Reader's row of tokens -/
/-- the i-th token begins at a: none ahead of it is the end or none -/
def Chn (T : Nat → Nat) (n : Nat) : Nat → Nat → Prop
  | 0, a => a = 0
  | i + 1, b => ∃ a so pl w nu, Chn T n i a ∧ Tk T n a so pl w nu b ∧ so ≠ 0 ∧ so ≠ 3
theorem Chn.uniq {T : Nat → Nat} {n : Nat} : ∀ {i a b : Nat}, Chn T n i a → Chn T n i b → a = b := by
  intro i
  induction i with
  | zero => intro a b h k; exact h.trans k.symm
  | succ i ih =>
    intro a b h k
    obtain ⟨a1, so, pl, w, nu, h1, h2, _⟩ := h
    obtain ⟨b1, so2, pl2, w2, nu2, k1, k2, _⟩ := k
    have e := ih h1 k1
    subst e
    exact (h2.uniq k2).2.2.2.2
/-- the first m tokens as the Reader holds them -/
def rdR (s : zSt) (T : Nat → Nat) (n m : Nat) : Prop := zI s 0 = nI m ∧ m ≤ 205 ∧ ∀ i, i < m → ∃ a so pl w nu nx, Chn T n i a ∧ a ≤ n ∧ Tk T n a so pl w nu nx ∧ zA s 1 i = nI (zcode so) ∧ zA s 2 i = nI pl ∧ (so = 1 → zB s 3 i = w) ∧ (so = 2 → zB s 3 i = lN nu) ∧ (i + 1 < m → so ≠ 0 ∧ so ≠ 3)
/-- the last of m tokens is the end, or none -/
def rdE (T : Nat → Nat) (n m : Nat) : Prop := ∃ i a so pl w nu nx, m = i + 1 ∧ Chn T n i a ∧ Tk T n a so pl w nu nx ∧ (so = 0 ∨ so = 3)
theorem zcode_0 {so : Nat} : zcode so = 0 ↔ so = 0 := by
  unfold zcode
  constructor
  · intro h
    by_cases h0 : so = 0
    · exact h0
    · rw [if_neg h0] at h
      exfalso
      split at h
      · exact absurd h (by decide)
      · split at h
        · exact absurd h (by decide)
        · split at h <;> exact absurd h (by decide)
  · intro h; rw [if_pos h]
theorem Tk.so {T : Nat → Nat} {n a so pl nu nx : Nat} {w : Int64} (h : Tk T n a so pl w nu nx) : so = 0 ∨ so = 1 ∨ so = 2 ∨ so = 3 ∨ so = 59 := by
  rcases h.2 with ⟨_, h, _⟩ | ⟨_, _, q, _, h, _⟩ | ⟨_, _, q, _, h, _⟩ | ⟨_, _, _, h, _⟩
  · exact Or.inl h
  · by_cases h8 : q - pl ≤ 8
    · rw [if_pos h8] at h; omega
    · rw [if_neg h8] at h; omega
  · by_cases h8 : q - pl ≤ 4 ∧ ¬ (q < n ∧ zle_ (T q) = true)
    · rw [if_pos h8] at h; omega
    · rw [if_neg h8] at h; omega
  · by_cases h8 : T pl = 59
    · rw [if_pos h8] at h; omega
    · rw [if_neg h8] at h; omega
theorem zcode_1 {so : Nat} (h : so = 0 ∨ so = 1 ∨ so = 2 ∨ so = 3 ∨ so = 59) : zcode so = 1 ↔ so = 3 := by
  rcases h with h | h | h | h | h <;> subst h <;> decide
theorem zcode_lt (so : Nat) : zcode so < 5 := by
  unfold zcode
  split
  · decide
  · split
    · decide
    · split
      · decide
      · split <;> decide
theorem Reader_read_ok {N : Nat} (hN : 1600 ≤ N) {f : Nat → Int32} {T : Nat → Nat} {n : Nat} : ∀ (k m a c : Nat) (s : zSt), 205 - m < k → rdT s f T n → rdR s T n m → zI s 6 = nI a → a ≤ n → Chn T n m a → c < 5 → c ≠ 0 → c ≠ 1 →
    zok (Reader_read_h25 N f k s (nI c)) (fun z => ∃ m', rdT z f T n ∧ rdR z T n m' ∧ 0 < m' ∧ (m' = 205 ∨ rdE T n m')) := by
  intro k
  induction k with
  | zero => intro m a c s h; exact absurd h (by omega)
  | succ k ih =>
    intro m a c s hk hT hR ha han hC hc5 hc0 hc1
    have hn := hT.1
    rw [Reader_read_h25_s]
    unfold Reader_read_b25
    refine zok_f (fun q => hc0 ((zeqL (k := 0) (by omega) (by decide)).mp q)) ?_
    refine zok_f (fun q => hc1 ((zeqL (k := 1) (by omega) (by decide)).mp q)) ?_
    obtain ⟨h0, hm, hR3⟩ := hR
    rw [h0]
    by_cases hfull : 205 ≤ m
    · refine zok_t ((zleR (k := 205) (by omega) (by decide)).mpr hfull) (zok_some ⟨m, hT, ⟨h0, hm, hR3⟩, by omega, Or.inl (by omega)⟩)
    · refine zok_f (fun q => hfull ((zleR (k := 205) (by omega) (by decide)).mp q)) ?_
      obtain ⟨p, hp, e4⟩ := Reader_blanks (N := N) N a s hT ha han (by omega)
      refine zok_be (show Reader_skipBlanks N s f = some (zpI s 6 (nI p)) from e4) ?_
      have e0 : zI (zpI s 6 (nI p)) 0 = nI m := h0
      have e6 : zI (zpI s 6 (nI p)) 6 = nI p := by rw [zI_pI, if_pos rfl]
      rw [e0, e6, nI_clamp (by omega)]
      refine zok_ck (vp_in_nI (by omega) (by decide)) ?_
      have hT' : rdT (zsA (zmg [1, 2, 3] (zpI s 6 (nI p)) s) 2 (upd (zA s 2) m (nI p))) f T n := ⟨hT.1, hT.2.1, hT.2.2⟩
      obtain ⟨so, w, nu, nx, ht, e, g, er, h3, hg, hg1, hg2⟩ := Reader_token (N := N) hN (s := zsA (zmg [1, 2, 3] (zpI s 6 (nI p)) s) 2 (upd (zA s 2) m (nI p))) hT' hp han h0 (by omega) e6
      refine zok_be er ?_
      have e7 : zI (zsB (zpI (zsA (zmg [1, 2, 3] (zpI s 6 (nI p)) s) 2 (upd (zA s 2) m (nI p))) 6 (nI e)) 3 g) 0 = nI m := h0
      rw [e7, nI_clamp (by omega), nI_1]
      refine zok_ck (vp_in_nI (by omega) (by decide)) ?_
      have hso := ht.so
      generalize hz : zpI (zsA (zmg [1, 2] (zsB (zpI (zsA (zmg [1, 2, 3] (zpI s 6 (nI p)) s) 2 (upd (zA s 2) m (nI p))) 6 (nI e)) 3 g) (zsA (zmg [1, 2, 3] (zpI s 6 (nI p)) s) 2 (upd (zA s 2) m (nI p)))) 1 (upd (zA s 1) m (nI (zcode so)))) 0 (nI (m + 1)) = z
      have z0 : zI z 0 = nI (m + 1) := by rw [← hz]; rfl
      have z5 : zI z 5 = nI n := by rw [← hz]; exact hT.2.1
      have z6 : zI z 6 = nI e := by rw [← hz]; rfl
      have zA1 : zA z 1 = upd (zA s 1) m (nI (zcode so)) := by rw [← hz]; rfl
      have zA2 : zA z 2 = upd (zA s 2) m (nI p) := by rw [← hz]; rfl
      have zB3 : zB z 3 = g := by rw [← hz]; rfl
      have hgs : ∀ i, i ≠ m → g i = zB s 3 i := hg
      have hTz : rdT z f T n := ⟨hT.1, z5, hT.2.2⟩
      have hRz : rdR z T n (m + 1) := by
        refine ⟨z0, by omega, fun i hi => ?_⟩
        rw [zA1, zA2, zB3]
        by_cases him : i = m
        · subst him
          refine ⟨a, so, p, w, nu, nx, hC, han, ht, by unfold upd; rw [if_pos rfl], by unfold upd; rw [if_pos rfl], hg1, hg2, fun h => absurd h (by omega)⟩
        · obtain ⟨a1, so1, pl1, w1, nu1, nx1, c1, c2, c3, c4, c5, c6, c7, c8⟩ := hR3 i (by omega)
          refine ⟨a1, so1, pl1, w1, nu1, nx1, c1, c2, c3, by unfold upd; rw [if_neg him]; exact c4, by unfold upd; rw [if_neg him]; exact c5, fun h => by rw [hgs i him]; exact c6 h, fun h => by rw [hgs i him]; exact c7 h, fun h => ?_⟩
          by_cases hlast : i + 1 = m
          · have hC2 := hC
            rw [← hlast] at hC2
            obtain ⟨a2, so2, pl2, w2, nu2, d1, d2, d3, d4⟩ := hC2
            have ea := Chn.uniq c1 d1
            subst ea
            have := (c3.uniq d2).1
            rw [this]
            exact ⟨d3, d4⟩
          · exact c8 (by omega)
      by_cases hstop : so = 0 ∨ so = 3
      · have hE : rdE T n (m + 1) := ⟨m, a, so, p, w, nu, nx, rfl, hC, ht, hstop⟩
        have hend : ∀ c2 : Nat, (c2 = 0 ∨ c2 = 1) → zok (Reader_read_h25 N f k z (nI c2)) (fun z => ∃ m', rdT z f T n ∧ rdR z T n m' ∧ 0 < m' ∧ (m' = 205 ∨ rdE T n m')) := by
          intro c2 hc2
          cases k with
          | zero => exact absurd hk (by omega)
          | succ k =>
            rw [Reader_read_h25_s]
            unfold Reader_read_b25
            rcases hc2 with h | h
            · subst h; exact zok_t rfl (zok_some ⟨m + 1, hTz, hRz, by omega, Or.inr hE⟩)
            · subst h; exact zok_f (by decide) (zok_t rfl (zok_some ⟨m + 1, hTz, hRz, by omega, Or.inr hE⟩))
        refine hend (zcode so) ?_
        rcases hstop with h | h
        · exact Or.inl (zcode_0.mpr h)
        · exact Or.inr ((zcode_1 hso).mpr h)
      · have hs0 : so ≠ 0 := fun q => hstop (Or.inl q)
        have hs3 : so ≠ 3 := fun q => hstop (Or.inr q)
        obtain ⟨en, hnx, hlt⟩ := h3 hs3
        refine ih (m + 1) nx (zcode so) z (by omega) hTz hRz (by rw [z6, en]) hnx ⟨a, so, p, w, nu, hC, ht, hs0, hs3⟩ (zcode_lt so) (fun q => hs0 (zcode_0.mp q)) (fun q => hs3 ((zcode_1 hso).mp q))
theorem Reader_read_spec {N : Nat} (hN : 1600 ≤ N) {f : Nat → Int32} {T : Nat → Nat} {n : Nat} {s : zSt} (hn : n ≤ 1500) (hT : ∀ i, T i < 256) (hf : ∀ i, i < 1500 → f i = sb_b (T i)) :
    zok (Reader_read N s f (nI n)) (fun z => ∃ m', rdT z f T n ∧ rdR z T n m' ∧ 0 < m' ∧ (m' = 205 ∨ rdE T n m')) := by
  unfold Reader_read Reader_read_b0
  have hmin : Math_min N (nI n) 1500 = some (nI n) := by
    unfold Math_min Math_min_b0
    by_cases h : (1500 : Int32) < nI n
    · exact absurd ((zltR (k := 1500) (by omega) (by decide)).mp h) (by omega)
    · first
        | rw [if_neg h]
        | (by_cases h2 : nI n ≤ 1500
           · rw [if_pos h2]
           · rw [if_neg h2]; exact absurd ((zleL (k := 1500) (by omega) (by decide)).mpr hn) h2)
  refine zok_be hmin ?_
  refine Reader_read_ok hN N 0 0 2 _ (by omega) ⟨hn, rfl, hT, hf⟩ ⟨rfl, by omega, fun i hi => absurd hi (by omega)⟩ rfl (by omega) rfl (by decide) (by decide) (by decide)
