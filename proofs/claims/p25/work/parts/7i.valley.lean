/-! the valley, both sides -/
theorem bcnt_mono {p : Nat → Bool} {x b : Nat} (h : x ≤ b) : bcnt p x ≤ bcnt p b := by
  induction b with
  | zero => rw [show x = 0 by omega]; exact Nat.le_refl _
  | succ b ih =>
    by_cases e : x = b + 1
    · rw [e]; exact Nat.le_refl _
    · have := ih (by omega)
      show bcnt p x ≤ bcnt p b + _
      omega
theorem bcnt_step {p : Nat → Bool} {x b : Nat} (h : x < b) (hp : p x = true) : bcnt p x < bcnt p b := by
  have h1 : bcnt p (x + 1) ≤ bcnt p b := bcnt_mono h
  have h2 : bcnt p (x + 1) = bcnt p x + 1 := by show bcnt p x + _ = _; rw [if_pos hp]
  omega
theorem bcnt_le (p : Nat → Bool) : ∀ b, bcnt p b ≤ b := by
  intro b
  induction b with
  | zero => exact Nat.le_refl _
  | succ b ih => show bcnt p b + (if p b then 1 else 0) ≤ b + 1; split <;> omega
/-- the reference's row of beasts -/
def BL (s : zSt) (p : Nat → Bool) (b : Nat) : Prop := ∀ x, x < b → p x = true → zA s 21 (bcnt p x) = nI x
theorem beastSet_loop {N b : Nat} {s : zSt} {p : Nat → Bool} (h30 : zI s 30 = nI (bcnt p b)) (h21 : BL s p b) (hb : b ≤ 11) (hk : bcnt p b ≤ 9) : ∀ (r x f : Nat), x + r = b → r < f → Mo_beastSet_h4 N s f (nI (bset p x)) (nI (bcnt p x)) = some (nI (bset p b)) := by
  intro r
  induction r with
  | zero =>
    intro x f hx hf
    obtain ⟨f', rfl⟩ : ∃ f', f = f' + 1 := ⟨f - 1, by omega⟩
    rw [Mo_beastSet_h4_s]
    unfold Mo_beastSet_b4
    rw [show x = b by omega, h30, if_pos ((nI_leI (by omega) (by omega)).mpr (Nat.le_refl _))]
  | succ r ih =>
    intro x f hx hf
    have e1 : bset p (x + 1) = bset p x + if p x then 2 ^ x else 0 := rfl
    have e2 : bcnt p (x + 1) = bcnt p x + if p x then 1 else 0 := rfl
    by_cases q : p x = true
    · obtain ⟨f', rfl⟩ : ∃ f', f = f' + 1 := ⟨f - 1, by omega⟩
      have hl := bcnt_step (p := p) (show x < b by omega) q
      have hs := bset_lt p x
      have hp2 : 2 ^ x ≤ 2 ^ 10 := Nat.pow_le_pow_right (by decide) (by omega)
      rw [Mo_beastSet_h4_s]
      unfold Mo_beastSet_b4
      rw [h30, if_neg (fun z => absurd ((nI_leI (by omega) (by omega)).mp z) (by omega)), zck_in (vp_in_nI (by omega) (by decide)), nI_clamp (by omega), h21 x (by omega) q, tshl_all x (by omega), nI_or (by omega) (by omega), or_pow hs, nI_1]
      rw [if_pos q] at e1 e2
      rw [← e1, ← e2]
      exact ih (x + 1) f' (by omega) (by omega)
    · have e1 : bset p (x + 1) = bset p x := by rw [e1, if_neg q]; rfl
      have e2 : bcnt p (x + 1) = bcnt p x := by rw [e2, if_neg q]; rfl
      rw [← e1, ← e2]
      exact ih (x + 1) f (by omega) (by omega)
theorem beastSet_eq {N b : Nat} (hN : 1600 ≤ N) {s : zSt} {p : Nat → Bool} (h30 : zI s 30 = nI (bcnt p b)) (h21 : BL s p b) (hb : b ≤ 11) (hk : bcnt p b ≤ 9) : Mo_beastSet N s = some (nI (bset p b)) := by
  unfold Mo_beastSet Mo_beastSet_b0
  exact beastSet_loop h30 h21 hb hk b 0 N (by omega) (by omega)
/-- the reference's valley is laid: the first i bells -/
def vI (z s : zSt) (p : Nat → Bool) (b i : Nat) : Prop :=
  (∀ k, ¬ k = 30 → zI s k = zI z k) ∧ (zI s 30 = nI (bcnt p (if i ≤ b then i else b)) ∧ (∀ x, x < i → x < b → p x = true → zA s 21 (bcnt p x) = nI x) ∧ ∀ x, (0 : Int) ≤ (zA s 21 x).toInt ∧ (zA s 21 x).toInt ≤ 10) ∧
  (∀ x, x < i → zA s 16 x = zA z 11 x ∧ zA s 17 x = zA z 12 x ∧ zA s 18 x = zA z 13 x ∧ zA s 20 x = zA z 15 x ∧ zA s 33 x = 0) ∧ (∀ k, ¬ (k = 16 ∨ k = 17 ∨ k = 18 ∨ k = 20 ∨ k = 21 ∨ k = 33) → zA s k = zA z k)
theorem lay_bells {N : Nat} {z : zSt} {p : Nat → Bool} {b : Nat} {P : Int32 × zSt → Prop} (hb : b ≤ 11) (h29 : zI z 29 = nI b) (hk : bcnt p b ≤ 9) (hp : ∀ x, x < b → (p x = true ↔ 0 ≤ zA z 13 x)) (fin : ∀ s, vI z s p b 11 → zok (Mo_valley_h161 N N s 0) P) :
    ∀ (f i : Nat) (s : zSt), i ≤ 11 → 11 - i < f → vI z s p b i → zok (Mo_valley_h52 N f s (nI i)) P := by
  intro f
  induction f with
  | zero => intro i s _ h; exact absurd h (by omega)
  | succ f ih =>
    intro i s hi hf hv
    rw [Mo_valley_h52_s]
    unfold Mo_valley_b52
    by_cases e : i = 11
    · subst e
      rw [if_pos (by decide)]
      exact fin s hv
    · have vin : vp_in (nI i) 11 := vp_in_nI (by omega) (by decide)
      rw [if_neg (fun q => absurd ((zleR (k := 11) (by omega) (by decide)).mp q) (by omega))]
      iterate 9 rw [zck_in vin]
      rw [nI_clamp (by omega)]
      obtain ⟨v1, ⟨v2, v3, v4⟩, v5, v6⟩ := hv
      generalize hS : zsA (zsA (zsA (zsA (zsA s 16 (upd (zA s 16) i (zA s 11 i))) 17 (upd (zA s 17) i (zA s 12 i))) 18 (upd (zA s 18) i (zA s 13 i))) 20 (upd (zA s 20) i (zA s 15 i))) 33 (upd (zA s 33) i 0) = S
      have SI : zI S = zI s := by rw [← hS]; rfl
      have S16 : zA S 16 = upd (zA s 16) i (zA z 11 i) := by rw [← hS, ← v6 11 (by decide), zA_sA, if_neg (by decide), zA_sA, if_neg (by decide), zA_sA, if_neg (by decide), zA_sA, if_neg (by decide), zA_sA, if_pos rfl]
      have S17 : zA S 17 = upd (zA s 17) i (zA z 12 i) := by rw [← hS, ← v6 12 (by decide), zA_sA, if_neg (by decide), zA_sA, if_neg (by decide), zA_sA, if_neg (by decide), zA_sA, if_pos rfl]
      have S18 : zA S 18 = upd (zA s 18) i (zA z 13 i) := by rw [← hS, ← v6 13 (by decide), zA_sA, if_neg (by decide), zA_sA, if_neg (by decide), zA_sA, if_pos rfl]
      have S20 : zA S 20 = upd (zA s 20) i (zA z 15 i) := by rw [← hS, ← v6 15 (by decide), zA_sA, if_neg (by decide), zA_sA, if_pos rfl]
      have S33 : zA S 33 = upd (zA s 33) i 0 := by rw [← hS, zA_sA, if_pos rfl]
      have SA : ∀ k, ¬ (k = 16 ∨ k = 17 ∨ k = 18 ∨ k = 20 ∨ k = 33) → zA S k = zA s k := fun k hk => by
        rw [← hS, zA_sA, if_neg (by omega), zA_sA, if_neg (by omega), zA_sA, if_neg (by omega), zA_sA, if_neg (by omega), zA_sA, if_neg (by omega)]
      have rows : ∀ s', (∀ k, ¬ k = 21 → zA s' k = zA S k) → (∀ x, x < i + 1 → zA s' 16 x = zA z 11 x ∧ zA s' 17 x = zA z 12 x ∧ zA s' 18 x = zA z 13 x ∧ zA s' 20 x = zA z 15 x ∧ zA s' 33 x = 0) ∧ (∀ k, ¬ (k = 16 ∨ k = 17 ∨ k = 18 ∨ k = 20 ∨ k = 21 ∨ k = 33) → zA s' k = zA z k) := by
        intro s' h'
        constructor
        · intro x hx
          rw [h' 16 (by decide), h' 17 (by decide), h' 18 (by decide), h' 20 (by decide), h' 33 (by decide), S16, S17, S18, S20, S33]
          simp only [upd_at]
          by_cases q : x = i
          · rw [if_pos q, if_pos q, if_pos q, if_pos q, if_pos q, q]; exact ⟨rfl, rfl, rfl, rfl, rfl⟩
          · rw [if_neg q, if_neg q, if_neg q, if_neg q, if_neg q]; exact v5 x (by omega)
        · intro k hk
          rw [h' k (by omega), SA k (by omega)]
          exact v6 k hk
      unfold Mo_valley_b113
      rw [SI, v1 29 (by decide), h29]
      by_cases q : b ≤ i
      · rw [if_pos ((nI_leI (by omega) (by omega)).mpr q)]
        unfold Mo_valley_b153
        rw [nI_1]
        refine ih (i + 1) S (by omega) (by omega) ⟨fun k hk => by rw [SI]; exact v1 k hk, ⟨?_, fun x h1 h2 h3 => ?_, ?_⟩, rows S (fun _ _ => rfl)⟩
        · rw [SI, v2]
          by_cases r : i = b
          · rw [if_pos (by omega), if_neg (by omega), r]
          · rw [if_neg (by omega), if_neg (by omega)]
        · rw [SA 21 (by decide)]; exact v3 x (by omega) h2 h3
        · rw [SA 21 (by decide)]; exact v4
      · have hpi := hp i (by omega)
        have e2 : bcnt p (i + 1) = bcnt p i + if p i then 1 else 0 := rfl
        rw [if_pos (by omega)] at v2
        rw [if_neg (fun r => absurd ((nI_leI (by omega) (by omega)).mp r) (by omega)), zck_in vin, nI_clamp (by omega), S18, upd_at, if_pos rfl]
        by_cases c : p i = true
        · have hlt := bcnt_step (p := p) (show i < b by omega) c
          rw [if_pos (hpi.mp c), v2, zck_in (vp_in_nI (by omega) (by decide)), nI_clamp (by omega)]
          unfold Mo_valley_b143 Mo_valley_b153
          rw [zI_sA, SI, v2, nI_1, nI_1]
          rw [if_pos c] at e2
          have ei := nI_toInt (n := i) (by omega)
          refine ih (i + 1) _ (by omega) (by omega) ⟨fun k hk => ?_, ⟨?_, fun x h1 h2 h3 => ?_, fun x => ?_⟩, rows _ (fun k hk => ?_)⟩
          · rw [zI_pI, if_neg hk, zI_sA, SI]; exact v1 k hk
          · rw [zI_pI, if_pos rfl, if_pos (by omega), e2]
          · rw [zA_pI, zA_sA, if_pos rfl, upd_at]
            by_cases r : x = i
            · rw [r, if_pos rfl]
            · have := bcnt_step (p := p) (show x < i by omega) h3
              rw [if_neg (by omega), SA 21 (by decide)]
              exact v3 x (by omega) h2 h3
          · rw [zA_pI, zA_sA, if_pos rfl]
            exact rgu (a := 0) (b := 10) (by rw [SA 21 (by decide)]; exact v4) ⟨by omega, by omega⟩ x
          · rw [zA_pI, zA_sA, if_neg hk]
        · rw [if_neg (fun r => c (hpi.mpr r))]
          unfold Mo_valley_b153
          rw [nI_1]
          rw [if_neg c] at e2
          refine ih (i + 1) S (by omega) (by omega) ⟨fun k hk => by rw [SI]; exact v1 k hk, ⟨?_, fun x h1 h2 h3 => ?_, ?_⟩, rows S (fun _ _ => rfl)⟩
          · rw [SI, v2, if_pos (by omega), e2]; rfl
          · rw [SA 21 (by decide)]
            by_cases r : x = i
            · rw [r] at h3; exact absurd h3 c
            · exact v3 x (by omega) h2 h3
          · rw [SA 21 (by decide)]; exact v4
/-- the reference's valley, laid whole -/
def vG (z y : zSt) (p : Nat → Bool) (b : Nat) : Prop :=
  (∀ k, ¬ (k = 30 ∨ k = 34 ∨ k = 35 ∨ k = 36 ∨ k = 37 ∨ k = 38 ∨ k = 47 ∨ k = 58 ∨ k = 50) → zI y k = zI z k) ∧ (zI y 30 = nI (bcnt p b) ∧ zI y 34 = nI (bset p b) ∧ zI y 35 = 0 ∧ zI y 36 = 0 ∧ zI y 37 = 0 ∧ zI y 38 = 0 ∧ zI y 47 = 0 ∧ zI y 58 = 0 ∧ zI y 50 = 0) ∧
  (BL y p b ∧ ∀ x, (0 : Int) ≤ (zA y 21 x).toInt ∧ (zA y 21 x).toInt ≤ 10) ∧ (∀ x, x < 11 → zA y 16 x = zA z 11 x ∧ zA y 17 x = zA z 12 x ∧ zA y 18 x = zA z 13 x ∧ zA y 20 x = zA z 15 x ∧ zA y 33 x = 0) ∧ (∀ x, x < 4 → zA y 19 x = zA z 14 x) ∧ (∀ x, zA y 62 x = if x < 3 then 0 else zA z 62 x) ∧ (∀ k, ¬ (k = 16 ∨ k = 17 ∨ k = 18 ∨ k = 19 ∨ k = 20 ∨ k = 21 ∨ k = 33 ∨ k = 62) → zA y k = zA z k)
theorem lay_box {N : Nat} (g : zSt) : ∀ (f i : Nat) (s : zSt), i ≤ 3 → 3 - i < f → zI s = zI g → (∀ k, ¬ k = 62 → zA s k = zA g k) → (∀ x, zA s 62 x = if x < i then 0 else zA g 62 x) → zok (Mo_valley_h229 N f s (nI i)) (fun y => y.1 = zI g 29 ∧ zI y.2 = zI g ∧ (∀ k, ¬ k = 62 → zA y.2 k = zA g k) ∧ ∀ x, zA y.2 62 x = if x < 3 then 0 else zA g 62 x) := by
  intro f
  induction f with
  | zero => intro i s _ h; exact absurd h (by omega)
  | succ f ih =>
    intro i s hi hf h1 h2 h3
    rw [Mo_valley_h229_s]
    unfold Mo_valley_b229
    by_cases e : i = 3
    · subst e
      rw [if_pos (by decide)]
      exact zok_some ⟨by rw [h1], h1, h2, h3⟩
    · rw [if_neg (fun q => absurd ((zleR (k := 3) (by omega) (by decide)).mp q) (by omega)), zck_in (vp_in_nI (by omega) (by decide)), nI_clamp (by omega), nI_1]
      refine ih (i + 1) _ (by omega) (by omega) h1 (fun k hk => ?_) (fun x => ?_)
      · rw [zA_sA, if_neg hk]; exact h2 k hk
      · rw [zA_sA, if_pos rfl, upd_at, h3 x]
        by_cases q : x = i
        · rw [if_pos q, if_pos (by omega)]
        · rw [if_neg q]
          by_cases r : x < i
          · rw [if_pos r, if_pos (by omega)]
          · rw [if_neg r, if_neg (by omega)]
theorem lay_ears {N : Nat} (hN : 1600 ≤ N) {z : zSt} {p : Nat → Bool} {b : Nat} (hb : b ≤ 11) (hk : bcnt p b ≤ 9) : ∀ (f i : Nat) (s g : zSt), i ≤ 4 → 4 - i < f → vI z g p b 11 → zI s = zI g → (∀ k, ¬ k = 19 → zA s k = zA g k) → (∀ x, x < i → zA s 19 x = zA z 14 x) → zok (Mo_valley_h161 N f s (nI i)) (fun y => y.1 = zI z 29 ∧ vG z y.2 p b) := by
  intro f
  induction f with
  | zero => intro i s g _ h; exact absurd h (by omega)
  | succ f ih =>
    intro i s g hi hf hv h1 h2 h3
    obtain ⟨v1, ⟨v2, v3, v4⟩, v5, v6⟩ := id hv
    have v2 : zI g 30 = nI (bcnt p b) := by
      by_cases q : 11 ≤ b
      · rw [v2, if_pos q, show b = 11 by omega]
      · rw [v2, if_neg q]
    rw [Mo_valley_h161_s]
    unfold Mo_valley_b161
    by_cases e : i = 4
    · subst e
      rw [if_pos (by decide)]
      have hbl : BL s p b := fun x hx hp => by rw [h2 21 (by decide)]; exact v3 x (by omega) hx hp
      refine zok_be (beastSet_eq hN (b := b) (by rw [h1]; exact v2) hbl hb hk) ?_
      generalize hg : zpI (zpI (zpI (zpI (zpI (zpI (zpI (zpI s 34 (nI (bset p b))) 35 0) 36 0) 37 0) 38 0) 47 0) 58 0) 50 0 = G
      have GI : ∀ k, zI G k = if k = 50 then 0 else if k = 58 then 0 else if k = 47 then 0 else if k = 38 then 0 else if k = 37 then 0 else if k = 36 then 0 else if k = 35 then 0 else if k = 34 then nI (bset p b) else zI g k := fun k => by
        rw [← hg, ← h1]
        simp only [zI_pI]
      have GA : zA G = zA s := by rw [← hg]; rfl
      refine zok_mono (lay_box G N 0 G (by omega) (by omega) rfl (fun _ _ => rfl) (fun x => by rw [if_neg (by omega)])) (fun y hy => ?_)
      obtain ⟨y1, y2, y3, y4⟩ := hy
      refine ⟨?_, fun k hk => ?_, ⟨?_, ?_, ?_, ?_, ?_, ?_, ?_, ?_, ?_⟩, ⟨fun x hx hp => ?_, fun x => ?_⟩, fun x hx => ?_, fun x hx => ?_, fun x => ?_, fun k hk => ?_⟩
      · rw [y1, GI]; exact v1 29 (by decide)
      · rw [y2, GI, if_neg (by omega), if_neg (by omega), if_neg (by omega), if_neg (by omega), if_neg (by omega), if_neg (by omega), if_neg (by omega), if_neg (by omega)]
        exact v1 k (by omega)
      · rw [y2, GI]; exact v2
      all_goals try (rw [y2, GI]; rfl)
      · rw [y3 21 (by decide), GA]; exact hbl x hx hp
      · rw [y3 21 (by decide), GA, h2 21 (by decide)]; exact v4 x
      · rw [y3 16 (by decide), y3 17 (by decide), y3 18 (by decide), y3 20 (by decide), y3 33 (by decide), GA, h2 16 (by decide), h2 17 (by decide), h2 18 (by decide), h2 20 (by decide), h2 33 (by decide)]
        exact v5 x hx
      · rw [y3 19 (by decide), GA]; exact h3 x hx
      · rw [y4 x, GA, h2 62 (by decide), v6 62 (by decide)]
      · rw [y3 k (by omega), GA, h2 k (by omega)]; exact v6 k (by omega)
    · rw [if_neg (fun q => absurd ((zleR (k := 4) (by omega) (by decide)).mp q) (by omega)), zck_in (vp_in_nI (by omega) (by decide)), zck_in (vp_in_nI (by omega) (by decide)), nI_clamp (by omega), nI_1]
      refine ih (i + 1) _ g (by omega) (by omega) hv h1 (fun k hk => ?_) (fun x hx => ?_)
      · rw [zA_sA, if_neg hk]; exact h2 k hk
      · rw [zA_sA, if_pos rfl, upd_at]
        by_cases q : x = i
        · rw [if_pos q, q, h2 14 (by decide), v6 14 (by decide)]
        · rw [if_neg q]; exact h3 x (by omega)
