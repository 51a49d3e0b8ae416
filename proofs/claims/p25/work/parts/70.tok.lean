/-! the text: runs of signs, and the reference's token -/
theorem zok_ite_iff {α : Type} {c : Prop} [Decidable c] {a b : Option α} {P : α → Prop} : zok (if c then a else b) P ↔ (c → zok a P) ∧ (¬ c → zok b P) := by
  by_cases h : c
  · rw [if_pos h]; exact ⟨fun k => ⟨fun _ => k, fun q => absurd h q⟩, fun k => k.1 h⟩
  · rw [if_neg h]; exact ⟨fun k => ⟨fun q => absurd q h, fun _ => k⟩, fun k => k.2 h⟩
theorem zok_bind_iff {α β : Type} {o : Option α} {f : α → Option β} {P : β → Prop} : zok (o.bind f) P ↔ zok o (fun z => zok (f z) P) := by
  cases o with
  | none => exact ⟨fun ⟨z, e, _⟩ => (by cases e), fun ⟨z, e, _⟩ => (by cases e)⟩
  | some a => exact ⟨fun k => ⟨a, rfl, k⟩, fun ⟨z, e, k⟩ => by cases e; exact k⟩
theorem zok_some_iff {α : Type} {a : α} {P : α → Prop} : zok (some a) P ↔ P a := ⟨fun ⟨z, e, h⟩ => by cases e; exact h, fun h => ⟨a, rfl, h⟩⟩
theorem zok_ck_iff {α : Type} {i : Int32} {n : Nat} {x : Option α} {P : α → Prop} : zok (zck i n x) P ↔ vp_in i n ∧ zok x P := by
  by_cases h : vp_in i n
  · rw [zck_in h]; exact ⟨fun k => ⟨h, k⟩, fun k => k.2⟩
  · constructor
    · rintro ⟨z, e, _⟩; exact absurd (zck_some e).1 h
    · exact fun k => absurd k.1 h
/-- the signs of a kind from a on end at r -/
def isRun (T : Nat → Nat) (n : Nat) (P : Nat → Bool) (a r : Nat) : Prop := a ≤ r ∧ (∀ i, a ≤ i → i < r → i < n ∧ P (T i) = true) ∧ (r < n → P (T r) = false)
theorem isRun.uniq {T : Nat → Nat} {n : Nat} {P : Nat → Bool} {a r q : Nat} (h : isRun T n P a r) (k : isRun T n P a q) : r = q := by
  rcases Nat.lt_trichotomy r q with l | l | l
  · have h1 := k.2.1 r h.1 l
    rw [h.2.2 h1.1] at h1
    exact absurd h1.2 (by decide)
  · exact l
  · have h1 := h.2.1 q k.1 l
    rw [k.2.2 h1.1] at h1
    exact absurd h1.2 (by decide)
theorem isRun.le {T : Nat → Nat} {n : Nat} {P : Nat → Bool} {a r : Nat} (h : isRun T n P a r) (ha : a ≤ n) : r ≤ n := by
  rcases Nat.lt_or_ge a r with l | l
  · have := (h.2.1 (r - 1) (by omega) (by omega)).1
    omega
  · have := h.1; omega
theorem isRun.step {T : Nat → Nat} {n : Nat} {P : Nat → Bool} {a r : Nat} (h0 : a < n) (h1 : P (T a) = true) (h : isRun T n P (a + 1) r) : isRun T n P a r :=
  ⟨by have := h.1; omega, fun i h2 h3 => by
    rcases Nat.lt_or_ge a i with l | l
    · exact h.2.1 i l h3
    · rw [show i = a by omega]; exact ⟨h0, h1⟩, h.2.2⟩
theorem isRun.stop {T : Nat → Nat} {n : Nat} {P : Nat → Bool} {a : Nat} (h : a < n → P (T a) = false) : isRun T n P a a := ⟨Nat.le_refl a, fun i h1 h2 => absurd h2 (by omega), h⟩
def zbl (c : Nat) : Bool := c == 32 || c == 10
def zle_ (c : Nat) : Bool := decide (97 ≤ c) && decide (c ≤ 122)
def zdi (c : Nat) : Bool := decide (48 ≤ c) && decide (c ≤ 57)
/-- the reference's text: its tape, its size -/
def moT (s : zSt) (T : Nat → Nat) (n : Nat) : Prop := n ≤ 1500 ∧ zI s 5 = nI n ∧ (∀ i, T i < 256) ∧ ∀ i, i < 1500 → zA s 0 i = nI (T i)
theorem Mo_here_eq {N : Nat} {s : zSt} {T : Nat → Nat} {n a k : Nat} (h : moT s T n) (ha : zI s 4 = nI a) (hk : a + k < 2 ^ 31) : Mo_here N s (nI k) = some (if a + k < n then nI (T (a + k)) else -1) := by
  obtain ⟨h1, h2, h3, h4⟩ := h
  unfold Mo_here Mo_here_b0
  rw [ha, h2, nI_add]
  by_cases hc : a + k < n
  · rw [if_neg (by rw [nI_leI (by omega) hk]; omega), zck_in (vp_in_nI (by omega) (by omega)), nI_clamp hk, h4 _ (by omega), if_pos hc]
  · rw [if_pos ((nI_leI (by omega) hk).mpr (by omega)), if_neg hc]
theorem Mo_isLetter_eq {N c : Nat} (hc : c < 256) : Mo_isLetter N (nI c) = some (if zle_ c then 1 else 0) := by
  unfold Mo_isLetter Mo_isLetter_b0
  unfold zle_
  by_cases h1 : c < 97
  · rw [if_pos ((zltL (by omega) (by decide)).mpr h1)]; simp [show ¬ 97 ≤ c by omega]
  · rw [if_neg (fun q => h1 ((zltL (by omega) (by decide)).mp q))]
    by_cases h2 : 122 < c
    · rw [if_pos ((zltR (by omega) (by decide)).mpr h2)]; simp [show ¬ c ≤ 122 by omega]
    · rw [if_neg (fun q => h2 ((zltR (by omega) (by decide)).mp q))]; simp [show 97 ≤ c by omega, show c ≤ 122 by omega]
theorem Mo_isDigit_eq {N c : Nat} (hc : c < 256) : Mo_isDigit N (nI c) = some (if zdi c then 1 else 0) := by
  unfold Mo_isDigit Mo_isDigit_b0
  unfold zdi
  by_cases h1 : c < 48
  · rw [if_pos ((zltL (by omega) (by decide)).mpr h1)]; simp [show ¬ 48 ≤ c by omega]
  · rw [if_neg (fun q => h1 ((zltL (by omega) (by decide)).mp q))]
    by_cases h2 : 57 < c
    · rw [if_pos ((zltR (by omega) (by decide)).mpr h2)]; simp [show ¬ c ≤ 57 by omega]
    · rw [if_neg (fun q => h2 ((zltR (by omega) (by decide)).mp q))]; simp [show 48 ≤ c by omega, show c ≤ 57 by omega]
theorem Mo_isLetter_m1 {N : Nat} : Mo_isLetter N (-1) = some 0 := by unfold Mo_isLetter Mo_isLetter_b0; rw [if_pos (by decide)]
theorem Mo_isDigit_m1 {N : Nat} : Mo_isDigit N (-1) = some 0 := by unfold Mo_isDigit Mo_isDigit_b0; rw [if_pos (by decide)]
/-- what `here` finds k signs on, as a number below 256 or none -/
theorem Mo_letter_at {N : Nat} {s : zSt} {T : Nat → Nat} {n a k : Nat} (h : moT s T n) (ha : zI s 4 = nI a) (hk : a + k < 2 ^ 31) : (Mo_here N s (nI k)).bind (fun z => Mo_isLetter N z) = some (if a + k < n ∧ zle_ (T (a + k)) = true then 1 else 0) := by
  rw [Mo_here_eq h ha hk]
  by_cases hc : a + k < n
  · rw [if_pos hc]
    show Mo_isLetter N (nI (T (a + k))) = _
    rw [Mo_isLetter_eq (h.2.2.1 _)]
    simp [hc]
  · rw [if_neg hc]
    show Mo_isLetter N (-1) = _
    rw [Mo_isLetter_m1]
    simp [hc]
/-- the letters' loop: it ends where they end, with the word of the first eight -/
def zword (T : Nat → Nat) (p : Nat) : Nat → Int64
  | 0 => 0
  | k + 1 => ((zword T p k) <<< (Int32.toInt64 8 &&& 63)) ||| Int32.toInt64 (nI (T (p + k)))
/-- what a run of the reference's token leaves alone -/
def moK (s z : zSt) : Prop := (∀ k, k ≠ 4 → k ≠ 6 → k ≠ 7 → k ≠ 8 → zI z k = zI s k) ∧ zA z = zA s ∧ (∀ k, k ≠ 9 → zL z k = zL s k) ∧ zB z = zB s
theorem moK.rfl {s : zSt} : moK s s := ⟨fun _ _ _ _ _ => _root_.rfl, _root_.rfl, fun _ _ => _root_.rfl, _root_.rfl⟩
theorem moK.trans {a b c : zSt} (h : moK a b) (k : moK b c) : moK a c := ⟨fun i h1 h2 h3 h4 => (k.1 i h1 h2 h3 h4).trans (h.1 i h1 h2 h3 h4), k.2.1.trans h.2.1, fun i h1 => (k.2.2.1 i h1).trans (h.2.2.1 i h1), k.2.2.2.trans h.2.2.2⟩
theorem moK.I {s : zSt} {k : Nat} {v : Int32} (h : k = 4 ∨ k = 6 ∨ k = 7 ∨ k = 8) : moK s (zpI s k v) := ⟨fun i h1 h2 h3 h4 => by rw [zI_pI, if_neg (by omega)], _root_.rfl, fun _ _ => _root_.rfl, _root_.rfl⟩
theorem moK.L {s : zSt} {v : Int64} : moK s (zpL s 9 v) := ⟨fun _ _ _ _ _ => _root_.rfl, _root_.rfl, fun i h1 => by rw [zL_pL, if_neg h1], _root_.rfl⟩
theorem moT.mv {s z : zSt} {T : Nat → Nat} {n : Nat} (h : moT s T n) (k : moK s z) : moT z T n := ⟨h.1, by rw [k.1 5 (by decide) (by decide) (by decide) (by decide)]; exact h.2.1, h.2.2.1, by rw [k.2.1]; exact h.2.2.2⟩
/-- the letters' loop: from the k-th letter on it comes to their end -/
theorem Mo_letters {N : Nat} {T : Nat → Nat} {n p q : Nat} (hq : isRun T n zle_ p q) (hp : p ≤ n) : ∀ (f k : Nat) (s : zSt), moT s T n → zI s 4 = nI p → p + k ≤ q → q - (p + k) < f → zL s 9 = zword T p (if k ≤ 8 then k else 8) →
    zok (Mo_token_h78 N f s (nI k)) (fun z => moK s z ∧ zI z 6 = (if q - p ≤ 8 then 1 else 3) ∧ zL z 9 = zword T p (if q - p ≤ 8 then q - p else 8) ∧ zI z 7 = zI s 7 ∧ zI z 8 = zI s 8 ∧ zI z 4 = nI (if q - p ≤ 8 then q else p)) := by
  intro f
  induction f with
  | zero => intro k s _ _ _ h; exact absurd h (by omega)
  | succ f ih =>
    intro k s hT ha hk hf hw
    have hqn := hq.le hp
    have hn := hT.1
    rw [Mo_token_h78_s]
    unfold Mo_token_b78
    refine zok_be (Mo_here_eq hT ha (by omega)) ?_
    by_cases he : p + k < q
    · have h1 := hq.2.1 (p + k) (by omega) he
      rw [if_pos h1.1]
      refine zok_be (Mo_isLetter_eq (hT.2.2.1 _)) ?_
      rw [if_pos h1.2]
      refine zok_f (by decide) ?_
      refine zok_ite (fun h8 => ?_) (fun h8 => ?_)
      · unfold Mo_token_b113
        have h8 : 8 ≤ k := (zleR (by omega) (by decide)).mp h8
        rw [nI_1]
        refine ih (k + 1) s hT ha (by omega) (by omega) ?_
        rw [hw]
        congr 1
        rcases Nat.lt_or_ge 8 k with l | l
        · rw [if_neg (by omega), if_neg (by omega)]
        · rw [if_pos (by omega), if_neg (by omega)]; omega
      · have h8 : k < 8 := Nat.lt_of_not_le fun q => h8 ((zleR (by omega) (by decide)).mpr q)
        refine zok_be (Mo_here_eq hT ha (by omega)) ?_
        rw [if_pos h1.1]
        unfold Mo_token_b113
        rw [nI_1]
        refine zok_mono (ih (k + 1) _ (hT.mv moK.L) ha (by omega) (by omega) ?_) (fun z hz => ⟨moK.L.trans hz.1, hz.2⟩)
        rw [zL_pL, if_pos rfl, hw, if_pos (by omega), if_pos (by omega)]
        rfl
    · have he : p + k = q := by omega
      have h0 : ¬ (p + k < n ∧ zle_ (T (p + k)) = true) := by
        rintro ⟨l, h⟩
        rw [he] at l h
        rw [hq.2.2 l] at h
        exact absurd h (by decide)
      have h2 : Mo_isLetter N (if p + k < n then nI (T (p + k)) else -1) = some 0 := by
        by_cases hc : p + k < n
        · rw [if_pos hc, Mo_isLetter_eq (hT.2.2.1 _), if_neg (fun q => h0 ⟨hc, q⟩)]
        · rw [if_neg hc, Mo_isLetter_m1]
      refine zok_be h2 ?_
      refine zok_t rfl ?_
      have hkq : q - p = k := by omega
      rw [hkq]
      refine zok_ite (fun h8 => ?_) (fun h8 => ?_)
      · have h8 : k ≤ 8 := (zleL (by omega) (by decide)).mp h8
        unfold Mo_token_b131 Mo_token_b231
        rw [zI_pI, if_pos rfl]
        refine zok_f (by decide) (zok_some ⟨(moK.I (by decide)).trans (moK.I (by decide)), ?_, ?_, rfl, rfl, ?_⟩)
        · rw [if_pos h8]; rfl
        · show zL s 9 = _
          rw [hw]
        · rw [if_pos h8]
          show zI s 4 + nI k = nI q
          rw [ha, nI_add, he]
      · have h8 : ¬ k ≤ 8 := fun q => h8 ((zleL (by omega) (by decide)).mpr q)
        unfold Mo_token_b131 Mo_token_b231
        rw [zI_pI, if_pos rfl]
        refine zok_t rfl (zok_some ⟨moK.I (by decide), ?_, ?_, rfl, rfl, ?_⟩)
        · rw [if_neg h8]; rfl
        · show zL s 9 = _
          rw [hw]
        · rw [if_neg h8]; exact ha
/-- the number of the first k digits -/
def znum (T : Nat → Nat) (p : Nat) : Nat → Nat
  | 0 => 0
  | k + 1 => 10 * znum T p k + (T (p + k) - 48)
theorem zdi_iff {c : Nat} : zdi c = true ↔ 48 ≤ c ∧ c ≤ 57 := by unfold zdi; simp
theorem zle_iff {c : Nat} : zle_ c = true ↔ 97 ≤ c ∧ c ≤ 122 := by unfold zle_; simp
theorem zbl_iff {c : Nat} : zbl c = true ↔ c = 32 ∨ c = 10 := by unfold zbl; simp
theorem znum_lt {T : Nat → Nat} {n p q : Nat} (hq : isRun T n zdi p q) : ∀ k, p + k ≤ q → znum T p k < 10 ^ k := by
  intro k
  induction k with
  | zero => intro _; exact Nat.one_pos
  | succ k ih =>
    intro h
    have h1 := ih (by omega)
    have h2 := zdi_iff.mp (hq.2.1 (p + k) (by omega) (by omega)).2
    show 10 * znum T p k + (T (p + k) - 48) < 10 ^ (k + 1)
    rw [Nat.pow_succ]
    omega
theorem zdig_step {a c : Nat} (hc : 48 ≤ c) : (10 : Int32) * nI a + nI c - 48 = nI (10 * a + (c - 48)) := by
  show nI 10 * nI a + nI c - nI 48 = _
  rw [pk_mul, nI_add, pk_sub (by omega)]
  congr 1
  omega
/-- the digits' loop -/
theorem Mo_digits {N : Nat} {T : Nat → Nat} {n p q : Nat} (hq : isRun T n zdi p q) (hp : p ≤ n) : ∀ (f k : Nat) (s : zSt), moT s T n → zI s 4 = nI p → p + k ≤ q → q - (p + k) < f → zI s 8 = nI (znum T p (if k ≤ 4 then k else 4)) →
    zok (Mo_token_h144 N f s (nI k)) (fun z => moK s z ∧ zI z 6 = (if q - p ≤ 4 ∧ ¬ (q < n ∧ zle_ (T q) = true) then 2 else 3) ∧ zI z 8 = nI (znum T p (if q - p ≤ 4 then q - p else 4)) ∧ zI z 7 = zI s 7 ∧ zL z 9 = zL s 9 ∧ zI z 4 = nI (if q - p ≤ 4 ∧ ¬ (q < n ∧ zle_ (T q) = true) then q else p)) := by
  intro f
  induction f with
  | zero => intro k s _ _ _ h; exact absurd h (by omega)
  | succ f ih =>
    intro k s hT ha hk hf hw
    have hqn := hq.le hp
    have hn := hT.1
    rw [Mo_token_h144_s]
    unfold Mo_token_b144
    refine zok_be (Mo_here_eq hT ha (by omega)) ?_
    by_cases he : p + k < q
    · have h1 := hq.2.1 (p + k) (by omega) he
      rw [if_pos h1.1]
      refine zok_be (Mo_isDigit_eq (hT.2.2.1 _)) ?_
      rw [if_pos h1.2]
      refine zok_f (by decide) ?_
      refine zok_ite (fun h8 => ?_) (fun h8 => ?_)
      · unfold Mo_token_b180
        have h8 : 4 ≤ k := (zleR (by omega) (by decide)).mp h8
        rw [nI_1]
        refine ih (k + 1) s hT ha (by omega) (by omega) ?_
        rw [hw]
        congr 2
        rcases Nat.lt_or_ge 4 k with l | l
        · rw [if_neg (by omega), if_neg (by omega)]
        · rw [if_pos (by omega), if_neg (by omega)]; omega
      · have h8 : k < 4 := Nat.lt_of_not_le fun q => h8 ((zleR (by omega) (by decide)).mpr q)
        refine zok_be (Mo_here_eq hT ha (by omega)) ?_
        rw [if_pos h1.1]
        unfold Mo_token_b180
        rw [nI_1]
        refine zok_mono (ih (k + 1) _ (hT.mv (moK.I (by decide))) ha (by omega) (by omega) ?_) (fun z hz => ⟨(moK.I (by decide)).trans hz.1, hz.2⟩)
        rw [zI_pI, if_pos rfl, hw, if_pos (by omega), if_pos (by omega)]
        exact zdig_step (zdi_iff.mp h1.2).1
    · have he : p + k = q := by omega
      have h0 : ¬ (p + k < n ∧ zdi (T (p + k)) = true) := by
        rintro ⟨l, h⟩
        rw [he] at l h
        rw [hq.2.2 l] at h
        exact absurd h (by decide)
      have h2 : Mo_isDigit N (if p + k < n then nI (T (p + k)) else -1) = some 0 := by
        by_cases hc : p + k < n
        · rw [if_pos hc, Mo_isDigit_eq (hT.2.2.1 _), if_neg (fun q => h0 ⟨hc, q⟩)]
        · rw [if_neg hc, Mo_isDigit_m1]
      refine zok_be h2 ?_
      refine zok_t rfl ?_
      have hkq : q - p = k := by omega
      rw [hkq]
      have bad : (¬ (k ≤ 4 ∧ ¬ (q < n ∧ zle_ (T q) = true))) → zok (Mo_token_b203 N s (nI k)) (fun z => moK s z ∧ zI z 6 = (if k ≤ 4 ∧ ¬ (q < n ∧ zle_ (T q) = true) then 2 else 3) ∧ zI z 8 = nI (znum T p (if k ≤ 4 then k else 4)) ∧ zI z 7 = zI s 7 ∧ zL z 9 = zL s 9 ∧ zI z 4 = nI (if k ≤ 4 ∧ ¬ (q < n ∧ zle_ (T q) = true) then q else p)) := by
        intro hb
        unfold Mo_token_b203 Mo_token_b208 Mo_token_b231
        rw [zI_pI, if_pos rfl]
        refine zok_t rfl (zok_some ⟨moK.I (by decide), ?_, ?_, rfl, rfl, ?_⟩)
        · rw [if_neg hb]; rfl
        · show zI s 8 = _
          rw [hw]
        · rw [if_neg hb]; exact ha
      refine zok_ite (fun h8 => ?_) (fun h8 => ?_)
      · have h8 : 4 < k := (zltR (by omega) (by decide)).mp h8
        exact bad (fun q => absurd q.1 (by omega))
      · have h8 : k ≤ 4 := Nat.le_of_not_lt fun q => h8 ((zltR (by omega) (by decide)).mpr q)
        refine zok_be (Mo_here_eq hT ha (by omega)) ?_
        by_cases hl : q < n ∧ zle_ (T q) = true
        · have h3 : Mo_isLetter N (if p + k < n then nI (T (p + k)) else -1) = some 1 := by
            rw [he, if_pos hl.1, Mo_isLetter_eq (hT.2.2.1 _), if_pos hl.2]
          refine zok_be h3 ?_
          refine zok_f (by decide) ?_
          exact bad (fun q => q.2 hl)
        · have h3 : Mo_isLetter N (if p + k < n then nI (T (p + k)) else -1) = some 0 := by
            rw [he]
            by_cases hc : q < n
            · rw [if_pos hc, Mo_isLetter_eq (hT.2.2.1 _), if_neg (fun q => hl ⟨hc, q⟩)]
            · rw [if_neg hc, Mo_isLetter_m1]
          refine zok_be h3 ?_
          refine zok_t rfl ?_
          unfold Mo_token_b208 Mo_token_b231
          rw [zI_pI, if_pos rfl]
          refine zok_f (by decide) (zok_some ⟨(moK.I (by decide)).trans (moK.I (by decide)), ?_, ?_, rfl, rfl, ?_⟩)
          · rw [if_pos ⟨h8, hl⟩]; rfl
          · show zI s 8 = _
            rw [hw]
          · rw [if_pos ⟨h8, hl⟩]
            show zI s 4 + nI k = nI q
            rw [ha, nI_add, he]
/-- the token from a on: its sort (0 end, 1 word, 2 number, 3 none, 59), its place, its word, its number, where the next begins -/
def Tk (T : Nat → Nat) (n a so pl : Nat) (w : Int64) (nu nx : Nat) : Prop := isRun T n zbl a pl ∧
  ((n ≤ pl ∧ so = 0 ∧ w = 0 ∧ nu = 0 ∧ nx = pl) ∨
   (pl < n ∧ zle_ (T pl) = true ∧ ∃ q, isRun T n zle_ pl q ∧ so = (if q - pl ≤ 8 then 1 else 3) ∧ w = zword T pl (if q - pl ≤ 8 then q - pl else 8) ∧ nu = 0 ∧ nx = (if q - pl ≤ 8 then q else pl)) ∨
   (pl < n ∧ zdi (T pl) = true ∧ ∃ q, isRun T n zdi pl q ∧ so = (if q - pl ≤ 4 ∧ ¬ (q < n ∧ zle_ (T q) = true) then 2 else 3) ∧ w = 0 ∧ nu = znum T pl (if q - pl ≤ 4 then q - pl else 4) ∧ nx = (if q - pl ≤ 4 ∧ ¬ (q < n ∧ zle_ (T q) = true) then q else pl)) ∨
   (pl < n ∧ zle_ (T pl) = false ∧ zdi (T pl) = false ∧ so = (if T pl = 59 then 59 else 3) ∧ w = 0 ∧ nu = 0 ∧ nx = (if T pl = 59 then pl + 1 else pl)))
theorem isRun.ex (T : Nat → Nat) (n : Nat) (P : Nat → Bool) : ∀ (k a : Nat), n - a ≤ k → ∃ r, isRun T n P a r := by
  intro k
  induction k with
  | zero => intro a h; exact ⟨a, isRun.stop (fun l => absurd l (by omega))⟩
  | succ k ih =>
    intro a h
    by_cases hc : a < n ∧ P (T a) = true
    · obtain ⟨r, hr⟩ := ih (a + 1) (by omega)
      exact ⟨r, hr.step hc.1 hc.2⟩
    · exact ⟨a, isRun.stop (fun l => by cases hp : P (T a) with | true => exact absurd ⟨l, hp⟩ hc | false => rfl)⟩
/-- the reference's token -/
theorem Mo_token_ok {N : Nat} (hN : 1600 ≤ N) {T : Nat → Nat} {n : Nat} : ∀ (f a : Nat) (s : zSt), moT s T n → zI s 4 = nI a → a ≤ n → n - a < f →
    zok (Mo_token_h0 N f s) (fun z => moK s z ∧ ∃ so pl w nu nx, Tk T n a so pl w nu nx ∧ zI z 6 = nI so ∧ zI z 7 = nI pl ∧ zL z 9 = w ∧ zI z 8 = nI nu ∧ zI z 4 = nI nx) := by
  intro f
  induction f with
  | zero => intro a s _ _ _ h; exact absurd h (by omega)
  | succ f ih =>
    intro a s hT ha han hf
    have hn := hT.1
    have hh : Mo_here N s 0 = some (if a < n then nI (T a) else -1) := by
      have := Mo_here_eq (N := N) (k := 0) hT ha (by omega)
      exact this
    rw [Mo_token_h0_s]
    unfold Mo_token_b0
    by_cases hb : a < n ∧ zbl (T a) = true
    · have go : zok (Mo_token_b20 N (Mo_token_h0 N f) s) (fun z => moK s z ∧ ∃ so pl w nu nx, Tk T n a so pl w nu nx ∧ zI z 6 = nI so ∧ zI z 7 = nI pl ∧ zL z 9 = w ∧ zI z 8 = nI nu ∧ zI z 4 = nI nx) := by
        unfold Mo_token_b20
        rw [ha, nI_1]
        refine zok_mono (ih (a + 1) _ (hT.mv (moK.I (by decide))) (by rw [zI_pI, if_pos rfl]) (by omega) (by omega)) (fun z hz => ?_)
        obtain ⟨h1, so, pl, w, nu, nx, ht, h2⟩ := hz
        exact ⟨(moK.I (by decide)).trans h1, so, pl, w, nu, nx, ⟨ht.1.step hb.1 hb.2, ht.2⟩, h2⟩
      refine zok_be hh ?_
      rw [if_pos hb.1]
      refine zok_ite (fun _ => go) (fun h32 => ?_)
      refine zok_be hh ?_
      rw [if_pos hb.1]
      refine zok_ite (fun _ => go) (fun h10 => ?_)
      rcases zbl_iff.mp hb.2 with e | e
      · exact absurd (by rw [e]; rfl) h32
      · exact absurd (by rw [e]; rfl) h10
    · have hrun : isRun T n zbl a a := isRun.stop (fun l => by cases hp : zbl (T a) with | true => exact absurd ⟨l, hp⟩ hb | false => rfl)
      have h32 : ¬ (if a < n then nI (T a) else -1) = (32 : Int32) := by
        intro q
        by_cases hc : a < n
        · rw [if_pos hc] at q
          have := (zeqL (by have := hT.2.2.1 a; omega) (by decide)).mp q
          exact hb ⟨hc, zbl_iff.mpr (Or.inl this)⟩
        · rw [if_neg hc] at q
          exact absurd q (by decide)
      have h10 : ¬ (if a < n then nI (T a) else -1) = (10 : Int32) := by
        intro q
        by_cases hc : a < n
        · rw [if_pos hc] at q
          have := (zeqL (by have := hT.2.2.1 a; omega) (by decide)).mp q
          exact hb ⟨hc, zbl_iff.mpr (Or.inr this)⟩
        · rw [if_neg hc] at q
          exact absurd q (by decide)
      refine zok_be hh ?_
      refine zok_f h32 ?_
      refine zok_be hh ?_
      refine zok_f h10 ?_
      have hh2 : Mo_here N (zpI s 7 (zI s 4)) 0 = some (if a < n then nI (T a) else -1) := Mo_here_eq (N := N) (k := 0) (hT.mv (moK.I (by decide))) ha (by omega)
      refine zok_be hh2 ?_
      have hK : moK s (zpI (zpL (zpI s 7 (zI s 4)) 9 0) 8 0) := (moK.I (by decide)).trans (moK.L.trans (moK.I (by decide)))
      have hT2 := hT.mv hK
      have h4 : zI (zpI (zpL (zpI s 7 (zI s 4)) 9 0) 8 0) 4 = nI a := ha
      have h7 : zI (zpI (zpL (zpI s 7 (zI s 4)) 9 0) 8 0) 7 = nI a := ha
      by_cases hc : a < n
      · rw [if_pos hc]
        have hTa := hT.2.2.1 a
        refine zok_t (by rw [show (0 : Int32) = nI 0 from rfl]; exact nI_le (by omega) (by omega)) ?_
        refine zok_be (Mo_isLetter_eq hTa) ?_
        by_cases hl : zle_ (T a) = true
        · rw [if_pos hl]
          refine zok_f (by decide) ?_
          obtain ⟨q, hq⟩ := isRun.ex T n zle_ (n - a) a (Nat.le_refl _)
          refine zok_mono (Mo_letters hq han N 0 _ hT2 h4 (by have := hq.1; omega) (by have := hq.le han; omega) rfl) (fun z hz => ?_)
          obtain ⟨z1, z2, z3, z4, z5, z6⟩ := hz
          refine ⟨hK.trans z1, (if q - a ≤ 8 then 1 else 3), a, _, 0, _, ⟨hrun, Or.inr (Or.inl ⟨hc, hl, q, hq, rfl, rfl, rfl, rfl⟩)⟩, ?_, z4.trans h7, z3, z5, z6⟩
          rw [z2]; split <;> rfl
        · rw [if_neg hl]
          refine zok_t rfl ?_
          refine zok_be (Mo_isDigit_eq hTa) ?_
          by_cases hd : zdi (T a) = true
          · rw [if_pos hd]
            refine zok_f (by decide) ?_
            obtain ⟨q, hq⟩ := isRun.ex T n zdi (n - a) a (Nat.le_refl _)
            refine zok_mono (Mo_digits hq han N 0 _ hT2 h4 (by have := hq.1; omega) (by have := hq.le han; omega) rfl) (fun z hz => ?_)
            obtain ⟨z1, z2, z3, z4, z5, z6⟩ := hz
            refine ⟨hK.trans z1, (if q - a ≤ 4 ∧ ¬ (q < n ∧ zle_ (T q) = true) then 2 else 3), a, _, _, _, ⟨hrun, Or.inr (Or.inr (Or.inl ⟨hc, hd, q, hq, rfl, rfl, rfl, rfl⟩))⟩, ?_, z4.trans h7, z5, z3, z6⟩
            rw [z2]; split <;> rfl
          · rw [if_neg hd]
            refine zok_t rfl ?_
            have hl : zle_ (T a) = false := by cases hp : zle_ (T a) with | true => exact absurd hp hl | false => rfl
            have hd : zdi (T a) = false := by cases hp : zdi (T a) with | true => exact absurd hp hd | false => rfl
            by_cases h59 : T a = 59
            · refine zok_t (by rw [h59]; rfl) ?_
              unfold Mo_token_b228 Mo_token_b231
              rw [zI_pI, if_pos rfl]
              refine zok_f (by rw [h59]; decide) (zok_some ?_)
              refine ⟨hK.trans ((moK.I (by decide)).trans (moK.I (by decide))), 59, a, 0, 0, a + 1, ⟨hrun, Or.inr (Or.inr (Or.inr ⟨hc, hl, hd, by rw [if_pos h59], rfl, rfl, by rw [if_pos h59]⟩))⟩, ?_, h7, rfl, rfl, ?_⟩
              · show nI (T a) = _
                rw [h59]
              · show zI s 4 + 1 = nI (a + 1)
                rw [ha, nI_1]
            · refine zok_f (fun q => h59 ((zeqL (by omega) (by decide)).mp q)) ?_
              unfold Mo_token_b228 Mo_token_b231
              rw [zI_pI, if_pos rfl]
              refine zok_t rfl (zok_some ?_)
              exact ⟨hK.trans (moK.I (by decide)), 3, a, 0, 0, a, ⟨hrun, Or.inr (Or.inr (Or.inr ⟨hc, hl, hd, by rw [if_neg h59], rfl, rfl, by rw [if_neg h59]⟩))⟩, rfl, h7, rfl, rfl, h4⟩
      · rw [if_neg hc]
        refine zok_f (by decide) ?_
        unfold Mo_token_b231
        rw [zI_pI, if_pos rfl]
        refine zok_f (by decide) (zok_some ?_)
        refine ⟨hK.trans ((moK.I (by decide)).trans (moK.I (by decide))), 0, a, 0, 0, a, ⟨hrun, Or.inl ⟨by omega, rfl, rfl, rfl, rfl⟩⟩, rfl, h7, rfl, rfl, ?_⟩
        show zI s 4 + 0 = nI a
        rw [ha]
        exact nI_add a 0
theorem Mo_token_spec {N : Nat} (hN : 1600 ≤ N) {T : Nat → Nat} {n a : Nat} {s : zSt} (hT : moT s T n) (ha : zI s 4 = nI a) (han : a ≤ n) :
    zok (Mo_token N s) (fun z => moK s z ∧ ∃ so pl w nu nx, Tk T n a so pl w nu nx ∧ zI z 6 = nI so ∧ zI z 7 = nI pl ∧ zL z 9 = w ∧ zI z 8 = nI nu ∧ zI z 4 = nI nx) :=
  Mo_token_ok hN N a s hT ha han (by have := hT.1; omega)
theorem Tk.uniq {T : Nat → Nat} {n a so pl nu nx so2 pl2 nu2 nx2 : Nat} {w w2 : Int64} (h : Tk T n a so pl w nu nx) (k : Tk T n a so2 pl2 w2 nu2 nx2) : so = so2 ∧ pl = pl2 ∧ w = w2 ∧ nu = nu2 ∧ nx = nx2 := by
  obtain ⟨h1, h2⟩ := h
  obtain ⟨k1, k2⟩ := k
  have e := h1.uniq k1
  subst e
  have hex : ∀ c, zle_ c = true → zdi c = false := by
    intro c h
    have := zle_iff.mp h
    cases hd : zdi c with
    | false => rfl
    | true => have := zdi_iff.mp hd; omega
  rcases h2 with ⟨a1, a2, a3, a4, a5⟩ | ⟨a1, a2, q, a3, a4, a5, a6, a7⟩ | ⟨a1, a2, q, a3, a4, a5, a6, a7⟩ | ⟨a1, a2, a3, a4, a5, a6, a7⟩ <;>
  rcases k2 with ⟨b1, b2, b3, b4, b5⟩ | ⟨b1, b2, r, b3, b4, b5, b6, b7⟩ | ⟨b1, b2, r, b3, b4, b5, b6, b7⟩ | ⟨b1, b2, b3, b4, b5, b6, b7⟩
  all_goals first
    | (exfalso; omega)
    | (subst a2 a3 a4 a5 b2 b3 b4 b5; exact ⟨rfl, rfl, rfl, rfl, rfl⟩)
    | (have e := a3.uniq b3; subst e; subst a4 a5 a6 a7 b4 b5 b6 b7; exact ⟨rfl, rfl, rfl, rfl, rfl⟩)
    | (subst a4 a5 a6 a7 b4 b5 b6 b7; exact ⟨rfl, rfl, rfl, rfl, rfl⟩)
    | (exfalso; rw [hex _ a2] at b2; exact absurd b2 (by decide))
    | (exfalso; rw [hex _ b2] at a2; exact absurd a2 (by decide))
    | (exfalso; rw [a2] at b2; exact absurd b2 (by decide))
    | (exfalso; rw [b2] at a2; exact absurd a2 (by decide))
    | (exfalso; rw [b3] at a2; exact absurd a2 (by decide))
    | (exfalso; rw [a3] at b2; exact absurd b2 (by decide))
