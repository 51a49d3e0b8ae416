/-! the reference's steps, told by the token at hand -/
theorem zmg_A {ks : List Nat} {z s : zSt} (h : zA z = zA s) : zA (zmg ks z s) = zA s := by
  funext k
  rw [zA_mg, h]
  split <;> rfl
theorem zmg_B {ks : List Nat} {z s : zSt} (h : zB z = zB s) : zB (zmg ks z s) = zB s := by
  funext k
  rw [zB_mg, h]
  split <;> rfl
/-- what the reading of a line's tokens leaves alone -/
def mK (s z : zSt) : Prop := (∀ k, k ≠ 2 → k ≠ 3 → k ≠ 4 → k ≠ 6 → k ≠ 7 → k ≠ 8 → zI z k = zI s k) ∧ zA z = zA s ∧ zB z = zB s
theorem mK.rfl {s : zSt} : mK s s := ⟨fun _ _ _ _ _ _ _ => _root_.rfl, _root_.rfl, _root_.rfl⟩
theorem mK.trans {a b c : zSt} (h : mK a b) (k : mK b c) : mK a c := ⟨fun i h1 h2 h3 h4 h5 h6 => (k.1 i h1 h2 h3 h4 h5 h6).trans (h.1 i h1 h2 h3 h4 h5 h6), k.2.1.trans h.2.1, k.2.2.trans h.2.2⟩
theorem moK.mK {s z : zSt} (h : moK s z) : mK s z := ⟨fun k _ _ h4 h6 h7 h8 => h.1 k h4 h6 h7 h8, h.2.1, h.2.2.2⟩
theorem mK.mg {ks : List Nat} {s z : zSt} (h : mK s z) : mK s (zmg ks z s) := ⟨h.1, zmg_A h.2.1, zmg_B h.2.2⟩
theorem moT.mk {s z : zSt} {T : Nat → Nat} {n : Nat} (h : moT s T n) (k : mK s z) : moT z T n := ⟨h.1, by rw [k.1 5 (by decide) (by decide) (by decide) (by decide) (by decide) (by decide)]; exact h.2.1, h.2.2.1, by rw [k.2.1]; exact h.2.2.2⟩
theorem moC.mg {ks : List Nat} {s z : zSt} {T : Nat → Nat} {n j so pl nu nx : Nat} {w : Int64} (h : moC z T n j so pl w nu nx) (k : zA z = zA s) : moC (zmg ks z s) T n j so pl w nu nx := by
  obtain ⟨h1, h2⟩ := h
  exact ⟨⟨h1.1, h1.2.1, h1.2.2.1, by rw [zmg_A k, ← k]; exact h1.2.2.2⟩, h2⟩
/-- the reference behind a fault -/
def mF (z : zSt) (F pl : Nat) : Prop := zI z 2 = nI F ∧ zI z 3 = nI pl
theorem Mo_wrong_ok {N : Nat} {T : Nat → Nat} {n j so pl nu nx : Nat} {w : Int64} {s : zSt} (h : moC s T n j so pl w nu nx) (h2 : zI s 2 = 0) (k : Nat) : ∃ z, Mo_wrong N s (nI k) = some z ∧ mK s z ∧ mF z (zfl so k) pl ∧ True := by
  have hso := h.2.1.so
  have h6 := h.2.2.1
  refine ⟨_, Mo_wrong_eq h2, ⟨fun i h1 h2 _ _ _ _ => by rw [zI_pI, if_neg h2, zI_pI, if_neg h1], rfl, rfl⟩, ⟨?_, h.2.2.2.1⟩, trivial⟩
  show (if zI s 6 = 3 then (1 : Int32) else nI k) = _
  unfold zfl
  rw [h6]
  by_cases h3 : so = 3
  · subst h3; rfl
  · rw [if_neg (fun q => h3 ((zeqL (k := 3) (by omega) (by decide)).mp q)), if_neg h3]
theorem zfl_pos {so k : Nat} (hk : 0 < k) : 0 < zfl so k := by unfold zfl; split <;> omega
theorem zfl_le {so k : Nat} (hk : k ≤ 5) : zfl so k ≤ 5 := by unfold zfl; split <;> omega
/-- a fault stays: no step is done behind it -/
theorem mF.ne {z : zSt} {F pl : Nat} (h : mF z F pl) (h0 : 0 < F) (h5 : F ≤ 5) : ¬ zI z 2 ≤ 0 ∧ ¬ zI z 2 = 0 := by
  rw [h.1]
  exact ⟨fun q => absurd ((zleL (k := 0) (by omega) (by decide)).mp q) (by omega), fun q => absurd ((zeqL (k := 0) (by omega) (by decide)).mp q) (by omega)⟩
theorem Mo_want_F {N : Nat} {z : zSt} {v : Int64} (h : ¬ zI z 2 ≤ 0) : Mo_want N z v = some z := by
  unfold Mo_want Mo_want_b0
  rw [if_neg h]
theorem Mo_toldNumber_F {N : Nat} {z : zSt} {a b : Int32} (h : ¬ zI z 2 ≤ 0) : Mo_toldNumber N z a b = some (0, z) := by
  unfold Mo_toldNumber Mo_toldNumber_b0
  rw [if_neg h]
theorem Mo_told_F {N : Nat} {z : zSt} {v : Int64} {a b : Int32} (h : ¬ zI z 2 ≤ 0) : Mo_told N z v a b = some (0, z) := by
  unfold Mo_told Mo_told_b0
  rw [Mo_want_F h]
  simp only [zbs]
  rw [Mo_toldNumber_F h]
  rfl
/-- a step goes on to the next token -/
def mG (s z : zSt) (T : Nat → Nat) (n j : Nat) : Prop := mK s z ∧ zI z 2 = 0 ∧ ∃ so pl w nu nx, moC z T n j so pl w nu nx
theorem Mo_token_G {N : Nat} (hN : 1600 ≤ N) {T : Nat → Nat} {n j so pl nu nx : Nat} {w : Int64} {s : zSt} (h : moC s T n j so pl w nu nx) (h2 : zI s 2 = 0) (h0 : so ≠ 0) (h3 : so ≠ 3) : ∃ z, Mo_token N s = some z ∧ mG s z T n (j + 1) := by
  obtain ⟨z, e, h1, h4⟩ := Mo_token_step hN h h0 h3
  exact ⟨z, e, h1.mK, by rw [h1.1 2 (by decide) (by decide) (by decide) (by decide)]; exact h2, h4⟩
theorem Mo_want_ok {N : Nat} (hN : 1600 ≤ N) {T : Nat → Nat} {n j so pl nu nx : Nat} {w : Int64} {s : zSt} (h : moC s T n j so pl w nu nx) (h2 : zI s 2 = 0) (v : Int64) :
    ((so = 1 ∧ w = v) → ∃ z, Mo_want N s v = some z ∧ mG s z T n (j + 1)) ∧
    (¬ (so = 1 ∧ w = v) → ∃ z, Mo_want N s v = some z ∧ mK s z ∧ mF z (zfl so 2) pl) := by
  have h6 := h.2.2.1
  have h9 := h.2.2.2.2.1
  have hso := h.2.1.so
  unfold Mo_want Mo_want_b0
  rw [if_pos (by rw [h2]; decide), Mo_isWord_eq, h6, h9]
  constructor
  · rintro ⟨a1, a2⟩
    rw [if_pos ⟨by rw [a1]; rfl, a2⟩]
    simp only [zbs]
    rw [if_neg (by decide)]
    obtain ⟨z, e, hz⟩ := Mo_token_G hN h h2 (by omega) (by omega)
    rw [e]
    exact ⟨z, rfl, hz⟩
  · intro hn
    rw [if_neg (fun q => hn ⟨(zeqL (k := 1) (by omega) (by decide)).mp q.1, q.2⟩)]
    simp only [zbs]
    rw [if_pos trivial]
    obtain ⟨z, e, k1, k2, k3⟩ := Mo_wrong_ok (N := N) h h2 2
    rw [show (2 : Int32) = nI 2 from rfl, e]
    exact ⟨_, rfl, k1.mg, k2⟩
theorem Mo_toldNumber_ok {N : Nat} (hN : 1600 ≤ N) {T : Nat → Nat} {n j so pl nu nx : Nat} {w : Int64} {s : zSt} (h : moC s T n j so pl w nu nx) (h2 : zI s 2 = 0) (lo hi : Nat) (hlo : lo < 1000) (hhi : hi < 1000) :
    ((so = 2 ∧ lo ≤ nu ∧ nu ≤ hi) → ∃ z, Mo_toldNumber N s (nI lo) (nI hi) = some (nI nu, z) ∧ mG s z T n (j + 1)) ∧
    (¬ (so = 2 ∧ lo ≤ nu ∧ nu ≤ hi) → ∃ r z, Mo_toldNumber N s (nI lo) (nI hi) = some (r, z) ∧ mK s z ∧ mF z (zfl so (if so = 2 then 4 else 2)) pl) := by
  have h6 := h.2.2.1
  have h8 := h.2.2.2.2.2.1
  have hso := h.2.1.so
  have hnu : nu < 10000 := by obtain ⟨a, _, _, q⟩ := h.2.1; exact q.nu
  have b41 : ∀ k : Nat, 0 < k → k ≤ 5 → ∃ r z, (Mo_wrong N s (nI k)).bind (fun z1 => Mo_toldNumber_b46 N (zmg [0] z1 s)) = some (r, z) ∧ mK s z ∧ mF z (zfl so k) pl := by
    intro k hk hk5
    obtain ⟨z, e, k1, k2, k3⟩ := Mo_wrong_ok (N := N) h h2 k
    rw [e]
    simp only [zbs]
    unfold Mo_toldNumber_b46
    have k4 : mF (zmg [0] z s) (zfl so k) pl := k2
    rw [if_neg (k4.ne (zfl_pos hk) (zfl_le hk5)).2]
    exact ⟨_, _, rfl, k1.mg, k4⟩
  unfold Mo_toldNumber Mo_toldNumber_b0
  rw [if_pos (by rw [h2]; decide), h6, h8]
  constructor
  · rintro ⟨a1, a2, a3⟩
    rw [if_pos (by rw [a1]; rfl), if_neg (fun q => absurd ((nI_ltI (by omega) (by omega)).mp q) (by omega)), if_pos ((nI_leI (by omega) (by omega)).mpr a3)]
    unfold Mo_toldNumber_b46
    rw [if_pos h2]
    obtain ⟨z, e, hz⟩ := Mo_token_G hN h h2 (by omega) (by omega)
    rw [e, h8]
    exact ⟨z, rfl, hz⟩
  · intro hn
    by_cases a1 : so = 2
    · rw [if_pos (by rw [a1]; rfl), if_pos a1]
      by_cases a2 : nu < lo
      · rw [if_pos ((nI_ltI (by omega) (by omega)).mpr a2)]
        exact b41 4 (by decide) (by decide)
      · rw [if_neg (fun q => a2 ((nI_ltI (by omega) (by omega)).mp q)), if_neg (fun q => hn ⟨a1, by omega, (nI_leI (by omega) (by omega)).mp q⟩)]
        exact b41 4 (by decide) (by decide)
    · rw [if_neg (fun q => a1 ((zeqL (k := 2) (by omega) (by decide)).mp q)), if_neg a1]
      exact b41 2 (by decide) (by decide)
