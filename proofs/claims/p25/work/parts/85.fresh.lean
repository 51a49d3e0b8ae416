/-! fresh -/
theorem trs12 (a : Int32) (h : -11 ≤ a.toInt ∧ a.toInt ≤ 11) : (a - a / (12 : Int32) * (12 : Int32)).toInt = a.toInt := by
  obtain ⟨e, h2⟩ := tdq12 a
  have e2 := tmulr (a / (12 : Int32)) (12 : Int32) 12 (by decide) (by omega) (by omega)
  have e3 := tsub a (a / (12 : Int32) * (12 : Int32)) (by omega) (by omega)
  omega
theorem bcnt_surj {p : Nat → Bool} : ∀ (b j : Nat), j < bcnt p b → ∃ x, x < b ∧ p x = true ∧ bcnt p x = j := by
  intro b
  induction b with
  | zero => intro j h; exact absurd h (Nat.not_lt_zero _)
  | succ b ih =>
    intro j h
    have e : bcnt p (b + 1) = bcnt p b + if p b then 1 else 0 := rfl
    by_cases q : j < bcnt p b
    · obtain ⟨x, h1, h2, h3⟩ := ih j q
      exact ⟨x, by omega, h2, h3⟩
    · by_cases c : p b = true
      · rw [if_pos c] at e
        exact ⟨b, by omega, c, by omega⟩
      · rw [if_neg c] at e
        exact absurd h (by omega)
/-- the beasts, by their places in the row -/
theorem beasts_ex {M : zSt} {p : Nat → Bool} {b : Nat} (h : BL M p b) : ∃ g : Nat → Nat, (∀ j, j < bcnt p b → g j < b ∧ p (g j) = true ∧ bcnt p (g j) = j ∧ zA M 21 j = nI (g j)) ∧ ∀ x, x < b → p x = true → g (bcnt p x) = x := by
  have key : ∀ j, ∃ x, j < bcnt p b → x < b ∧ p x = true ∧ bcnt p x = j := fun j => by
    by_cases q : j < bcnt p b
    · obtain ⟨x, h1, h2, h3⟩ := bcnt_surj b j q
      exact ⟨x, fun _ => ⟨h1, h2, h3⟩⟩
    · exact ⟨0, fun c => absurd c q⟩
  have inj : ∀ x y, x < b → y < b → p x = true → p y = true → bcnt p x = bcnt p y → x = y := fun x y hx hy px py e => by
    rcases Nat.lt_trichotomy x y with l | l | l
    · have := bcnt_step (p := p) l px; omega
    · exact l
    · have := bcnt_step (p := p) l py; omega
  refine ⟨fun j => (key j).choose, fun j hj => ?_, fun x hx px => ?_⟩
  · obtain ⟨h1, h2, h3⟩ := (key j).choose_spec hj
    have := h _ h1 h2
    rw [h3] at this
    exact ⟨h1, h2, h3, this⟩
  · have hj := bcnt_step (p := p) hx px
    obtain ⟨h1, h2, h3⟩ := (key (bcnt p x)).choose_spec hj
    exact inj _ _ h1 hx h2 px h3
/-- is there a beast of this tone and loudness? -/
def hbS (V : zSt) (b : Nat) (t l : Int32) (i : Nat) : Prop := ∃ x, i ≤ x ∧ x < b ∧ isB V x = true ∧ zA V 5 x = t ∧ zA V 6 x = l
theorem hasBeast_loop {N b : Nat} {V : zSt} {t l : Int32} (hb : b ≤ 11) (v3 : zI V 3 = nI b) (h8 : zI V 8 = nI (bset (isB V) b)) : ∀ (r i f : Nat), i + r = b → r < f → (hbS V b t l i ∧ Valley_hasBeast_h2 N V t l f (nI i) = some 1) ∨ (¬ hbS V b t l i ∧ Valley_hasBeast_h2 N V t l f (nI i) = some 0) := by
  intro r
  induction r with
  | zero =>
    intro i f hi hf
    obtain ⟨f', rfl⟩ : ∃ f', f = f' + 1 := ⟨f - 1, by omega⟩
    rw [Valley_hasBeast_h2_s]
    unfold Valley_hasBeast_b2
    rw [v3, if_pos ((nI_leI (by omega) (by omega)).mpr (by omega))]
    exact Or.inr ⟨fun ⟨x, h1, h2, _⟩ => by omega, rfl⟩
  | succ r ih =>
    intro i f hi hf
    obtain ⟨f', rfl⟩ : ∃ f', f = f' + 1 := ⟨f - 1, by omega⟩
    have go : ¬ (isB V i = true ∧ zA V 5 i = t ∧ zA V 6 i = l) → (hbS V b t l i ∧ Valley_hasBeast_b40 N (Valley_hasBeast_h2 N V t l f') V t l (nI i) = some 1) ∨ (¬ hbS V b t l i ∧ Valley_hasBeast_b40 N (Valley_hasBeast_h2 N V t l f') V t l (nI i) = some 0) := by
      intro hno
      have e : hbS V b t l i ↔ hbS V b t l (i + 1) := by
        constructor
        · rintro ⟨x, h1, h2, h3, h4, h5⟩
          refine ⟨x, ?_, h2, h3, h4, h5⟩
          rcases Nat.eq_or_lt_of_le h1 with q | q
          · subst q; exact absurd ⟨h3, h4, h5⟩ hno
          · exact q
        · rintro ⟨x, h1, h2⟩
          exact ⟨x, by omega, h2⟩
      unfold Valley_hasBeast_b40
      rw [nI_1, e]
      exact ih (i + 1) f' (by omega) (by omega)
    have v : vp_in (nI i) 11 := vp_in_nI (by omega) (by decide)
    rw [Valley_hasBeast_h2_s]
    unfold Valley_hasBeast_b2
    rw [v3, if_neg (fun q => absurd ((nI_leI (by omega) (by omega)).mp q) (by omega)), isBeast_eq h8 hb (show i < b by omega)]
    simp only [zbs]
    by_cases c : isB V i = true
    · rw [if_pos c, if_neg n10, zck_in v, zck_in v, nI_clamp (by omega)]
      by_cases c2 : zA V 5 i = t
      · rw [if_pos c2]
        by_cases c3 : zA V 6 i = l
        · rw [if_pos c3]
          exact Or.inl ⟨⟨i, Nat.le_refl _, by omega, c, c2, c3⟩, rfl⟩
        · rw [if_neg c3]; exact go (fun q => c3 q.2.2)
      · rw [if_neg c2]; exact go (fun q => c2 q.2.1)
    · rw [if_neg c, if_pos rfl]; exact go (fun q => c q.1)
theorem hasBeast_eq {N b : Nat} (hN : 50000000 ≤ N) {V : zSt} {t l : Int32} (hb : b ≤ 11) (v3 : zI V 3 = nI b) (h8 : zI V 8 = nI (bset (isB V) b)) : (hbS V b t l 0 ∧ Valley_hasBeast N V t l = some 1) ∨ (¬ hbS V b t l 0 ∧ Valley_hasBeast N V t l = some 0) := by
  unfold Valley_hasBeast Valley_hasBeast_b0
  exact hasBeast_loop hb v3 h8 b 0 N (by omega) (by omega)
/-- two beasts that are alike -/
def alk (V : zSt) (x y : Nat) : Prop := isB V x = true ∧ isB V y = true ∧ zA V 5 x = zA V 5 y ∧ zA V 6 x = zA V 6 y
theorem each_inner {N b x : Nat} {V : zSt} (kh : Int32 → Option Int32) (hb : b ≤ 11) (hx : x < b) (h8 : zI V 8 = nI (bset (isB V) b)) : ∀ (r y f : Nat), y + r = x → r < f → ((∃ z, y ≤ z ∧ z < x ∧ alk V x z) ∧ Valley_eachIsKnown_h12 N kh V (nI x) f (nI y) = some 0) ∨ ((¬ ∃ z, y ≤ z ∧ z < x ∧ alk V x z) ∧ Valley_eachIsKnown_h12 N kh V (nI x) f (nI y) = kh (nI (x + 1))) := by
  intro r
  induction r with
  | zero =>
    intro y f hy hf
    obtain ⟨f', rfl⟩ : ∃ f', f = f' + 1 := ⟨f - 1, by omega⟩
    rw [Valley_eachIsKnown_h12_s]
    unfold Valley_eachIsKnown_b12
    rw [if_pos ((nI_leI (by omega) (by omega)).mpr (by omega)), nI_1]
    exact Or.inr ⟨fun ⟨z, h1, h2, _⟩ => by omega, rfl⟩
  | succ r ih =>
    intro y f hy hf
    obtain ⟨f', rfl⟩ : ∃ f', f = f' + 1 := ⟨f - 1, by omega⟩
    have go : ¬ alk V x y → ((∃ z, y ≤ z ∧ z < x ∧ alk V x z) ∧ Valley_eachIsKnown_b75 N kh (Valley_eachIsKnown_h12 N kh V (nI x) f') V (nI x) (nI y) = some 0) ∨ ((¬ ∃ z, y ≤ z ∧ z < x ∧ alk V x z) ∧ Valley_eachIsKnown_b75 N kh (Valley_eachIsKnown_h12 N kh V (nI x) f') V (nI x) (nI y) = kh (nI (x + 1))) := by
      intro hno
      have e : (∃ z, y ≤ z ∧ z < x ∧ alk V x z) ↔ ∃ z, y + 1 ≤ z ∧ z < x ∧ alk V x z := by
        constructor
        · rintro ⟨z, h1, h2, h3⟩
          refine ⟨z, ?_, h2, h3⟩
          rcases Nat.eq_or_lt_of_le h1 with q | q
          · subst q; exact absurd h3 hno
          · exact q
        · rintro ⟨z, h1, h2⟩
          exact ⟨z, by omega, h2⟩
      unfold Valley_eachIsKnown_b75
      rw [nI_1, e]
      exact ih (y + 1) f' (by omega) (by omega)
    have v : vp_in (nI x) 11 := vp_in_nI (by omega) (by decide)
    have u : vp_in (nI y) 11 := vp_in_nI (by omega) (by decide)
    rw [Valley_eachIsKnown_h12_s]
    unfold Valley_eachIsKnown_b12
    rw [if_neg (fun q => absurd ((nI_leI (by omega) (by omega)).mp q) (by omega)), isBeast_eq h8 hb hx, isBeast_eq h8 hb (show y < b by omega)]
    simp only [zbs]
    unfold Valley_eachIsKnown_b37 Valley_eachIsKnown_b38
    by_cases c : isB V x = true
    · rw [if_pos c, if_neg n10]
      by_cases c1 : isB V y = true
      · rw [if_pos c1, if_neg n10, if_neg n10]
        rw [zck_in v, zck_in u, nI_clamp (by omega), nI_clamp (by omega), zck_in v, zck_in u]
        by_cases c2 : zA V 5 x = zA V 5 y
        · rw [if_pos c2]
          by_cases c3 : zA V 6 x = zA V 6 y
          · rw [if_pos c3]
            exact Or.inl ⟨⟨y, Nat.le_refl _, by omega, c, c1, c2, c3⟩, rfl⟩
          · rw [if_neg c3]; exact go (fun q => c3 q.2.2.2)
        · rw [if_neg c2]; exact go (fun q => c2 q.2.2.1)
      · rw [if_neg c1, if_pos rfl, if_pos rfl]; exact go (fun q => c1 q.2.1)
    · rw [if_neg c, if_pos rfl, if_pos rfl]; exact go (fun q => c q.1)
theorem each_loop {N b : Nat} (hN : 50000000 ≤ N) {V : zSt} (hb : b ≤ 11) (v3 : zI V 3 = nI b) (h8 : zI V 8 = nI (bset (isB V) b)) : ∀ (r x f : Nat), x + r = b → r < f → ((∃ w z, x ≤ w ∧ w < b ∧ z < w ∧ alk V w z) ∧ Valley_eachIsKnown_h2 N V f (nI x) = some 0) ∨ ((¬ ∃ w z, x ≤ w ∧ w < b ∧ z < w ∧ alk V w z) ∧ Valley_eachIsKnown_h2 N V f (nI x) = some 1) := by
  intro r
  induction r with
  | zero =>
    intro x f hx hf
    obtain ⟨f', rfl⟩ : ∃ f', f = f' + 1 := ⟨f - 1, by omega⟩
    rw [Valley_eachIsKnown_h2_s]
    unfold Valley_eachIsKnown_b2
    rw [v3, if_pos ((nI_leI (by omega) (by omega)).mpr (by omega))]
    exact Or.inr ⟨fun ⟨w, z, h1, h2, _⟩ => by omega, rfl⟩
  | succ r ih =>
    intro x f hx hf
    obtain ⟨f', rfl⟩ : ∃ f', f = f' + 1 := ⟨f - 1, by omega⟩
    rw [Valley_eachIsKnown_h2_s]
    unfold Valley_eachIsKnown_b2
    rw [v3, if_neg (fun q => absurd ((nI_leI (by omega) (by omega)).mp q) (by omega))]
    rcases each_inner (N := N) (Valley_eachIsKnown_h2 N V f') hb (show x < b by omega) h8 x 0 N (by omega) (by omega) with ⟨⟨z, z1, z2, z3⟩, e⟩ | ⟨hno, e⟩
    · exact Or.inl ⟨⟨x, z, Nat.le_refl _, by omega, z2, z3⟩, e⟩
    · have q : (∃ w z, x ≤ w ∧ w < b ∧ z < w ∧ alk V w z) ↔ ∃ w z, x + 1 ≤ w ∧ w < b ∧ z < w ∧ alk V w z := by
        constructor
        · rintro ⟨w, z, h1, h2, h3, h4⟩
          refine ⟨w, z, ?_, h2, h3, h4⟩
          rcases Nat.eq_or_lt_of_le h1 with q | q
          · subst q; exact absurd ⟨z, Nat.zero_le _, h3, h4⟩ hno
          · exact q
        · rintro ⟨w, z, h1, h2⟩
          exact ⟨w, z, by omega, h2⟩
      have e : Valley_eachIsKnown_h12 N (Valley_eachIsKnown_h2 N V f') V (nI x) N 0 = Valley_eachIsKnown_h2 N V f' (nI (x + 1)) := e
      rw [q, e]
      exact ih (x + 1) f' (by omega) (by omega)
/-- the reference: beasts and a new one, none like another -/
def okj (M : zSt) (g : Nat → Nat) (l t : Int32) (j : Nat) : Prop := ¬ (zA M 16 (g j) = t ∧ zA M 17 (g j) = l) ∧ ∀ i, i < j → ¬ (zA M 16 (g j) = zA M 16 (g i) ∧ zA M 17 (g j) = zA M 17 (g i))
theorem new_inner {N j : Nat} {M : zSt} {g : Nat → Nat} {l t : Int32} (kh : Int32 → Int32 → Option Int32) (hj : j < 9) (hg : ∀ i, i ≤ j → g i < 11 ∧ zA M 21 i = nI (g i)) : ∀ (r i f : Nat) (s : Int32), i + r = j → r < f → (s = 0 ∨ s = 1) → ∃ s', (s' = 0 ∨ s' = 1) ∧ (s' = 1 ↔ s = 1 ∧ ∀ i', i ≤ i' → i' < j → ¬ (zA M 16 (g j) = zA M 16 (g i') ∧ zA M 17 (g j) = zA M 17 (g i'))) ∧ Mo_isKnownNew_h58 N kh M l t (nI j) (nI (g j)) f s (nI i) = kh s' (nI (j + 1)) := by
  intro r
  induction r with
  | zero =>
    intro i f s hi hf hs
    obtain ⟨f', rfl⟩ : ∃ f', f = f' + 1 := ⟨f - 1, by omega⟩
    rw [Mo_isKnownNew_h58_s]
    unfold Mo_isKnownNew_b58
    rw [if_pos ((nI_leI (by omega) (by omega)).mpr (by omega)), nI_1]
    exact ⟨s, hs, ⟨fun q => ⟨q, fun i' h1 h2 => by omega⟩, fun q => q.1⟩, rfl⟩
  | succ r ih =>
    intro i f s hi hf hs
    obtain ⟨f', rfl⟩ : ∃ f', f = f' + 1 := ⟨f - 1, by omega⟩
    obtain ⟨gj, _⟩ := hg j (Nat.le_refl _)
    obtain ⟨gi, ei⟩ := hg i (by omega)
    have v : vp_in (nI (g j)) 11 := vp_in_nI gj (by decide)
    have u : vp_in (nI i) 9 := vp_in_nI (by omega) (by decide)
    have w : vp_in (nI (g i)) 11 := vp_in_nI gi (by decide)
    have go0 : ¬ (s = 1 ∧ ¬ (zA M 16 (g j) = zA M 16 (g i) ∧ zA M 17 (g j) = zA M 17 (g i))) → ∃ s', (s' = 0 ∨ s' = 1) ∧ (s' = 1 ↔ s = 1 ∧ ∀ i', i ≤ i' → i' < j → ¬ (zA M 16 (g j) = zA M 16 (g i') ∧ zA M 17 (g j) = zA M 17 (g i'))) ∧ Mo_isKnownNew_b117 N kh (Mo_isKnownNew_h58 N kh M l t (nI j) (nI (g j)) f') M l t (nI j) (nI (g j)) (nI i) = kh s' (nI (j + 1)) := by
      intro hno
      obtain ⟨s', h1, h2, h3⟩ := ih (i + 1) f' 0 (by omega) (by omega) (Or.inl rfl)
      refine ⟨s', h1, ⟨fun q => absurd (h2.mp q).1 (by decide), fun q => absurd ⟨q.1, q.2 i (Nat.le_refl _) (by omega)⟩ hno⟩, ?_⟩
      unfold Mo_isKnownNew_b117 Mo_isKnownNew_b118
      rw [nI_1]
      exact h3
    have go1 : s = 1 → ¬ (zA M 16 (g j) = zA M 16 (g i) ∧ zA M 17 (g j) = zA M 17 (g i)) → ∃ s', (s' = 0 ∨ s' = 1) ∧ (s' = 1 ↔ s = 1 ∧ ∀ i', i ≤ i' → i' < j → ¬ (zA M 16 (g j) = zA M 16 (g i') ∧ zA M 17 (g j) = zA M 17 (g i'))) ∧ Mo_isKnownNew_b113 N kh (Mo_isKnownNew_h58 N kh M l t (nI j) (nI (g j)) f') M l t (nI j) (nI (g j)) (nI i) = kh s' (nI (j + 1)) := by
      intro h0 hno
      obtain ⟨s', h1, h2, h3⟩ := ih (i + 1) f' 1 (by omega) (by omega) (Or.inr rfl)
      refine ⟨s', h1, ⟨fun q => ⟨h0, fun i' a b => ?_⟩, fun q => h2.mpr ⟨rfl, fun i' a b => q.2 i' (by omega) b⟩⟩, ?_⟩
      · rcases Nat.eq_or_lt_of_le a with c | c
        · subst c; exact hno
        · exact (h2.mp q).2 i' c b
      · unfold Mo_isKnownNew_b113 Mo_isKnownNew_b118
        rw [nI_1]
        exact h3
    rw [Mo_isKnownNew_h58_s]
    unfold Mo_isKnownNew_b58
    rw [if_neg (fun q => absurd ((nI_leI (by omega) (by omega)).mp q) (by omega))]
    by_cases c : s = 0
    · rw [if_pos c]; exact go0 (fun q => absurd q.1 (by rw [c]; decide))
    · have c1 : s = 1 := hs.resolve_left c
      rw [if_neg c, zck_in v, zck_in u, nI_clamp (n := i) (by omega), ei, zck_in w, nI_clamp (n := g j) (by omega), nI_clamp (n := g i) (by omega), zck_in v, zck_in u, zck_in w]
      by_cases c2 : zA M 16 (g j) = zA M 16 (g i)
      · rw [if_pos c2]
        by_cases c3 : zA M 17 (g j) = zA M 17 (g i)
        · rw [if_pos c3]; exact go0 (fun q => q.2 ⟨c2, c3⟩)
        · rw [if_neg c3]; exact go1 c1 (fun q => c3 q.2)
      · rw [if_neg c2]; exact go1 c1 (fun q => c2 q.1)
theorem new_loop {N k : Nat} (hN : 50000000 ≤ N) {M : zSt} {g : Nat → Nat} {l t : Int32} (hk : k ≤ 9) (m30 : zI M 30 = nI k) (hg : ∀ i, i < k → g i < 11 ∧ zA M 21 i = nI (g i)) : ∀ (r j f : Nat) (s : Int32), j + r = k → r < f → (s = 0 ∨ s = 1) → ∃ s', (s' = 0 ∨ s' = 1) ∧ (s' = 1 ↔ s = 1 ∧ ∀ j', j ≤ j' → j' < k → okj M g l t j') ∧ Mo_isKnownNew_h5 N M l t f s (nI j) = some s' := by
  intro r
  induction r with
  | zero =>
    intro j f s hj hf hs
    obtain ⟨f', rfl⟩ : ∃ f', f = f' + 1 := ⟨f - 1, by omega⟩
    rw [Mo_isKnownNew_h5_s]
    unfold Mo_isKnownNew_b5
    rw [m30, if_pos ((nI_leI (by omega) (by omega)).mpr (by omega)), zcb_in hs]
    exact ⟨s, hs, ⟨fun q => ⟨q, fun j' h1 h2 => by omega⟩, fun q => q.1⟩, rfl⟩
  | succ r ih =>
    intro j f s hj hf hs
    obtain ⟨f', rfl⟩ : ∃ f', f = f' + 1 := ⟨f - 1, by omega⟩
    obtain ⟨gj, ej⟩ := hg j (by omega)
    have u : vp_in (nI j) 9 := vp_in_nI (by omega) (by decide)
    have v : vp_in (nI (g j)) 11 := vp_in_nI gj (by decide)
    have go : ∀ s0 : Int32, (s0 = 0 ∨ s0 = 1) → (s0 = 1 ↔ s = 1 ∧ ¬ (zA M 16 (g j) = t ∧ zA M 17 (g j) = l)) → ∃ s', (s' = 0 ∨ s' = 1) ∧ (s' = 1 ↔ s = 1 ∧ ∀ j', j ≤ j' → j' < k → okj M g l t j') ∧ Mo_isKnownNew_h58 N (Mo_isKnownNew_h5 N M l t f') M l t (nI j) (nI (g j)) N s0 0 = some s' := by
      intro s0 hs0 h0
      obtain ⟨s1, a1, a2, a3⟩ := new_inner (N := N) (l := l) (t := t) (Mo_isKnownNew_h5 N M l t f') (show j < 9 by omega) (fun i hi => hg i (by omega)) j 0 N s0 (by omega) (by omega) hs0
      obtain ⟨s', b1, b2, b3⟩ := ih (j + 1) f' s1 (by omega) (by omega) a1
      refine ⟨s', b1, ⟨fun q => ?_, fun q => ?_⟩, a3.trans b3⟩
      · obtain ⟨q1, q2⟩ := b2.mp q
        obtain ⟨q3, q4⟩ := a2.mp q1
        obtain ⟨q5, q6⟩ := h0.mp q3
        refine ⟨q5, fun j' c1 c2 => ?_⟩
        rcases Nat.eq_or_lt_of_le c1 with c | c
        · subst c; exact ⟨q6, fun i hi => q4 i (Nat.zero_le _) hi⟩
        · exact q2 j' c c2
      · have q0 := q.2 j (Nat.le_refl _) (by omega)
        exact b2.mpr ⟨a2.mpr ⟨h0.mpr ⟨q.1, q0.1⟩, fun i' _ c2 => q0.2 i' c2⟩, fun j' c1 c2 => q.2 j' (by omega) c2⟩
    rw [Mo_isKnownNew_h5_s]
    unfold Mo_isKnownNew_b5 Mo_isKnownNew_b53 Mo_isKnownNew_b49 Mo_isKnownNew_b54
    rw [m30, if_neg (fun q => absurd ((nI_leI (by omega) (by omega)).mp q) (by omega)), zck_in u, nI_clamp (n := j) (by omega), ej]
    by_cases c : s = 0
    · rw [if_pos c]
      exact go 0 (Or.inl rfl) ⟨fun q => absurd q (by decide), fun q => absurd q.1 (by rw [c]; decide)⟩
    · have c1 : s = 1 := hs.resolve_left c
      rw [if_neg c, zck_in v, nI_clamp (n := g j) (by omega), zck_in v]
      by_cases c2 : zA M 16 (g j) = t
      · rw [if_pos c2]
        by_cases c3 : zA M 17 (g j) = l
        · rw [if_pos c3]
          exact go 0 (Or.inl rfl) ⟨fun q => absurd q (by decide), fun q => absurd ⟨c2, c3⟩ q.2⟩
        · rw [if_neg c3]
          exact go 1 (Or.inr rfl) ⟨fun _ => ⟨c1, fun q => c3 q.2⟩, fun _ => rfl⟩
      · rw [if_neg c2]
        exact go 1 (Or.inr rfl) ⟨fun _ => ⟨c1, fun q => c2 q.1⟩, fun _ => rfl⟩
theorem new_eq {N b k : Nat} (hN : 50000000 ≤ N) {M V : zSt} {l t : Int32} (hb : b ≤ 11) (hk9 : k ≤ 9) (hk : k = bcnt (isB V) b) (m30 : zI M 30 = nI k) (hBL : BL M (isB V) b) (hr : ∀ i, i < b → zA M 16 i = zA V 5 i ∧ zA M 17 i = zA V 6 i ∧ zA M 18 i = zA V 7 i ∧ zA M 20 i = zA V 10 i) : ∃ s, (s = 0 ∨ s = 1) ∧ (s = 1 ↔ ¬ hbS V b t l 0 ∧ ¬ ∃ w z, 0 ≤ w ∧ w < b ∧ z < w ∧ alk V w z) ∧ Mo_isKnownNew N M l t = some s := by
  obtain ⟨g, g1, g2⟩ := beasts_ex hBL
  obtain ⟨s, h1, h2, h3⟩ := new_loop (N := N) (g := g) (l := l) (t := t) hN hk9 m30 (fun i hi => ⟨by have := (g1 i (by omega)).1; omega, (g1 i (by omega)).2.2.2⟩) k 0 N 1 (by omega) (by omega) (Or.inr rfl)
  refine ⟨s, h1, ⟨fun q => ?_, fun q => ?_⟩, h3⟩
  · obtain ⟨_, q⟩ := h2.mp q
    constructor
    · rintro ⟨x, _, x1, x2, x3, x4⟩
      have hj := bcnt_step (p := isB V) x1 x2
      have := (q (bcnt (isB V) x) (Nat.zero_le _) (by omega)).1
      rw [g2 x x1 x2, (hr x x1).1, (hr x x1).2.1] at this
      exact this ⟨x3, x4⟩
    · rintro ⟨w, z, _, w1, zw, a1, a2, a3, a4⟩
      have hj := bcnt_step (p := isB V) w1 a1
      have hi := bcnt_step (p := isB V) zw a2
      have := (q (bcnt (isB V) w) (Nat.zero_le _) (by omega)).2 (bcnt (isB V) z) hi
      rw [g2 w w1 a1, g2 z (by omega) a2, (hr w w1).1, (hr w w1).2.1, (hr z (by omega)).1, (hr z (by omega)).2.1] at this
      exact this ⟨a3, a4⟩
  · obtain ⟨q1, q2⟩ := q
    refine h2.mpr ⟨rfl, fun j _ hj => ⟨fun c => ?_, fun i hi c => ?_⟩⟩
    · obtain ⟨x1, x2, _, _⟩ := g1 j (by omega)
      rw [(hr _ x1).1, (hr _ x1).2.1] at c
      exact q1 ⟨g j, Nat.zero_le _, x1, x2, c.1, c.2⟩
    · obtain ⟨x1, x2, x3, _⟩ := g1 j (by omega)
      obtain ⟨y1, y2, y3, _⟩ := g1 i (by omega)
      rw [(hr _ x1).1, (hr _ x1).2.1, (hr _ y1).1, (hr _ y1).2.1] at c
      have hlt : g i < g j := by
        rcases Nat.lt_or_ge (g i) (g j) with l | l
        · exact l
        · have := bcnt_mono (p := isB V) l
          omega
      exact q2 ⟨g j, g i, Nat.zero_le _, x1, hlt, x2, y2, c.1, c.2⟩
theorem near_loop {N b t : Nat} {V M : zSt} {s : Int32} (ht : t < 12) (hb : b ≤ 11) (hV : I_Valley V) (m29 : zI M 29 = nI b) (v3 : zI V 3 = nI b) (hr : ∀ i, i < b → zA M 16 i = zA V 5 i ∧ zA M 17 i = zA V 6 i ∧ zA M 18 i = zA V 7 i ∧ zA M 20 i = zA V 10 i) : ∀ (r i f g : Nat) (acc : Int32), i + r = b → r < f → r < g → ∃ x, Valley_farFrom_h6 N V (nI t) s f acc (nI i) = some x ∧ Mo_nearest_h6 N M s (nI t) g acc (nI i) = some x := by
  have e0 : (0 : Int32).toInt = 0 := by decide
  have e6 : (6 : Int32).toInt = 6 := by decide
  have e12 : (12 : Int32).toInt = 12 := by decide
  have et := nI_toInt (n := t) (by omega)
  intro r
  induction r with
  | zero =>
    intro i f g acc hi hf hg
    obtain ⟨f', rfl⟩ : ∃ f', f = f' + 1 := ⟨f - 1, by omega⟩
    obtain ⟨g', rfl⟩ : ∃ g', g = g' + 1 := ⟨g - 1, by omega⟩
    rw [Valley_farFrom_h6_s, Mo_nearest_h6_s]
    unfold Valley_farFrom_b6 Mo_nearest_b6
    rw [v3, m29, if_pos ((nI_leI (by omega) (by omega)).mpr (by omega)), if_pos ((nI_leI (by omega) (by omega)).mpr (by omega))]
    exact ⟨acc, rfl, rfl⟩
  | succ r ih =>
    intro i f g acc hi hf hg
    obtain ⟨f', rfl⟩ : ∃ f', f = f' + 1 := ⟨f - 1, by omega⟩
    obtain ⟨g', rfl⟩ : ∃ g', g = g' + 1 := ⟨g - 1, by omega⟩
    have v : vp_in (nI i) 11 := vp_in_nI (by omega) (by decide)
    rw [Valley_farFrom_h6_s, Mo_nearest_h6_s]
    unfold Valley_farFrom_b6 Mo_nearest_b6
    rw [v3, m29, if_neg (fun q => absurd ((nI_leI (by omega) (by omega)).mp q) (by omega)), if_neg (fun q => absurd ((nI_leI (by omega) (by omega)).mp q) (by omega))]
    by_cases c : ((s >>> (nI i &&& 31)) &&& 1) = 0
    · rw [if_neg (by rw [c]; decide), if_pos c]
      unfold Valley_farFrom_b54 Mo_nearest_b73
      rw [nI_1]
      exact ih (i + 1) f' g' acc (by omega) (by omega) (by omega)
    · rw [if_pos ((bit01 _).resolve_left c), if_neg c, zck_in v, zck_in v, nI_clamp (by omega), (hr i (by omega)).1]
      have hu : (0 : Int) ≤ (zA V 5 i).toInt ∧ (zA V 5 i).toInt ≤ 11 := hV.2 5 i
      generalize zA V 5 i = u at hu
      have s1 := tsub (nI t) u (by omega) (by omega)
      have s2 := tsub u (nI t) (by omega) (by omega)
      have s3 := tneg (nI t - u) (by omega) (by omega)
      -- the shorter way round
      have key : ∃ d : Int32, (Math_abs N (nI t - u)).bind (fun z4 => (Math_min N z4 (12 - z4)).bind (fun z6 => (Math_min N acc z6).bind (fun z8 => Valley_farFrom_b54 N (Valley_farFrom_h6 N V (nI t) s f') V (nI t) s z8 (nI i)))) = (Math_min N acc d).bind (fun z8 => Valley_farFrom_b54 N (Valley_farFrom_h6 N V (nI t) s f') V (nI t) s z8 (nI i)) ∧ (Mo_modulo N (u - nI t)).bind (fun z4 => if z4 ≤ 6 then (Mo_nearest_b58 N (Mo_nearest_h6 N M s (nI t) g') M s (nI t) acc (nI i) z4) else (Mo_nearest_b58 N (Mo_nearest_h6 N M s (nI t) g') M s (nI t) acc (nI i) (12 - z4))) = Mo_nearest_b58 N (Mo_nearest_h6 N M s (nI t) g') M s (nI t) acc (nI i) d := by
        have hab : ∃ a : Int32, Math_abs N (nI t - u) = some a ∧ (a.toInt = (t : Int) - u.toInt ∨ a.toInt = u.toInt - t) ∧ 0 ≤ a.toInt := by
          unfold Math_abs Math_abs_b0
          by_cases q : 0 ≤ nI t - u
          · have q' := tle q
            exact ⟨_, if_pos q, Or.inl (by omega), by omega⟩
          · have q' := tnle q
            exact ⟨_, if_neg q, Or.inr (by omega), by omega⟩
        obtain ⟨a, ea, a1, a2⟩ := hab
        have s4 := tsub 12 a (by omega) (by omega)
        have hmi : ∃ d : Int32, Math_min N a (12 - a) = some d ∧ (d.toInt = a.toInt ∧ a.toInt ≤ 6 ∨ d.toInt = 12 - a.toInt ∧ 6 < a.toInt) := by
          unfold Math_min Math_min_b0
          by_cases q : 12 - a < a
          · have q' := tlt q
            exact ⟨_, if_pos q, Or.inr ⟨by omega, by omega⟩⟩
          · have q' := tnlt q
            exact ⟨_, if_neg q, Or.inl ⟨rfl, by omega⟩⟩
        obtain ⟨d, ed, d1⟩ := hmi
        have hmo : ∃ m : Int32, Mo_modulo N (u - nI t) = some m ∧ (m.toInt = u.toInt - t ∧ (t : Int) ≤ u.toInt ∨ m.toInt = u.toInt - t + 12 ∧ u.toInt < t) := by
          have x := trs12 (u - nI t) (by omega)
          have l12 := li_12
          have z := tadd (u - nI t - (u - nI t) / (12 : Int32) * (12 : Int32)) 12 (by omega) (by omega)
          have w := trem12 (u - nI t - (u - nI t) / (12 : Int32) * (12 : Int32) + 12)
          exact ⟨_, rfl, by omega⟩
        obtain ⟨m, em, m1⟩ := hmo
        have s5 := tsub 12 m (by omega) (by omega)
        refine ⟨d, ?_, ?_⟩
        · rw [ea]
          simp only [zbs]
          rw [ed]
          simp only [zbs]
        · rw [em]
          simp only [zbs]
          by_cases q : m ≤ 6
          · have q' := tle q
            rw [if_pos q, show m = d from Int32.toInt_inj.mp (by omega)]
          · have q' := tnle q
            rw [if_neg q, show 12 - m = d from Int32.toInt_inj.mp (by omega)]
      obtain ⟨d, k1, k2⟩ := key
      rw [k1, k2]
      unfold Math_min Math_min_b0 Mo_nearest_b58 Mo_nearest_b72 Mo_nearest_b73
      by_cases q : d < acc
      · have q' := tlt q
        rw [if_pos q, if_neg (fun z => by have := tle z; omega)]
        simp only [zbs]
        unfold Valley_farFrom_b54
        rw [nI_1]
        exact ih (i + 1) f' g' d (by omega) (by omega) (by omega)
      · have q' := tnlt q
        rw [if_neg q, if_pos (Int32.le_iff_toInt_le.mpr (by omega))]
        simp only [zbs]
        unfold Valley_farFrom_b54
        rw [nI_1]
        exact ih (i + 1) f' g' acc (by omega) (by omega) (by omega)
theorem near_two {N b t : Nat} (hN : 50000000 ≤ N) {V M : zSt} {s : Int32} (ht : t < 12) (hb : b ≤ 11) (hV : I_Valley V) (m29 : zI M 29 = nI b) (v3 : zI V 3 = nI b) (hr : ∀ i, i < b → zA M 16 i = zA V 5 i ∧ zA M 17 i = zA V 6 i ∧ zA M 18 i = zA V 7 i ∧ zA M 20 i = zA V 10 i) : ∃ x, Valley_farFrom N V (nI t) s = some x ∧ Mo_nearest N M s (nI t) = some x := by
  unfold Valley_farFrom Valley_farFrom_b0 Mo_nearest Mo_nearest_b0
  exact near_loop ht hb hV m29 v3 hr b 0 N N 12 (by omega) (by omega) (by omega)
theorem with_loop {N b : Nat} {V M : zSt} {l s : Int32} (hb : b ≤ 11) (m29 : zI M 29 = nI b) (v3 : zI V 3 = nI b) (hr : ∀ i, i < b → zA M 16 i = zA V 5 i ∧ zA M 17 i = zA V 6 i ∧ zA M 18 i = zA V 7 i ∧ zA M 20 i = zA V 10 i) : ∀ (r i f g : Nat) (acc : Int32), i + r = b → r < f → r < g → ∃ x, Valley_withThoseBeside_h4 N V s f acc (nI i) = some x ∧ Mo_fresh_h33 N M l s g acc (nI i) = Mo_fresh_h81 N M l x N (-1) (-1) 0 := by
  intro r
  induction r with
  | zero =>
    intro i f g acc hi hf hg
    obtain ⟨f', rfl⟩ : ∃ f', f = f' + 1 := ⟨f - 1, by omega⟩
    obtain ⟨g', rfl⟩ : ∃ g', g = g' + 1 := ⟨g - 1, by omega⟩
    rw [Valley_withThoseBeside_h4_s, Mo_fresh_h33_s]
    unfold Valley_withThoseBeside_b4 Mo_fresh_b33
    rw [v3, m29, if_pos ((nI_leI (by omega) (by omega)).mpr (by omega)), if_pos ((nI_leI (by omega) (by omega)).mpr (by omega))]
    exact ⟨acc, rfl, rfl⟩
  | succ r ih =>
    intro i f g acc hi hf hg
    obtain ⟨f', rfl⟩ : ∃ f', f = f' + 1 := ⟨f - 1, by omega⟩
    obtain ⟨g', rfl⟩ : ∃ g', g = g' + 1 := ⟨g - 1, by omega⟩
    have v : vp_in (nI i) 11 := vp_in_nI (by omega) (by decide)
    rw [Valley_withThoseBeside_h4_s, Mo_fresh_h33_s]
    unfold Valley_withThoseBeside_b4 Mo_fresh_b33
    rw [v3, m29, if_neg (fun q => absurd ((nI_leI (by omega) (by omega)).mp q) (by omega)), if_neg (fun q => absurd ((nI_leI (by omega) (by omega)).mp q) (by omega))]
    unfold Valley_withThoseBeside_b30 Mo_fresh_b64
    by_cases c : ((s >>> (nI i &&& 31)) &&& 1) = 1
    · rw [if_pos c, if_pos c, zck_in v, zck_in v, nI_clamp (by omega), (hr i (by omega)).2.2.2, nI_1]
      exact ih (i + 1) f' g' _ (by omega) (by omega) (by omega)
    · rw [if_neg c, if_neg c, Int32.or_zero, nI_1]
      exact ih (i + 1) f' g' _ (by omega) (by omega) (by omega)
theorem fresh_ans {N : Nat} {s0 V M : zSt} {v1 v2 : Int32} (hN : 50000000 ≤ N) (h0 : I_CH s0) (hM : I_Mo M) (hV : I_Valley V) (hL : LandR M V) : ∃ z y, CH_fresh N s0 V v1 v2 = some z ∧ Mo_fresh N M v1 v2 = some y ∧ z = y := by
  obtain ⟨h, b, k, e, ⟨_, l2, l3, _, l5⟩, ⟨_, v3, _, _⟩, ⟨_, b2, b3, _, _, b6⟩, r1, r2, r3, r4, r5⟩ := hL
  have hk9 : bcnt (isB V) b ≤ 9 := by omega
  have hbs := beastSet_eq (N := N) (s := M) (p := isB V) (b := b) (by omega) (by rw [l3, r4]) r5 b2 hk9
  have hlt := bset_lt (isB V) b
  have hpw : 2 ^ b ≤ 2 ^ 11 := Nat.pow_le_pow_right (by decide) b2
  unfold CH_fresh CH_fresh_b0 Mo_fresh Mo_fresh_b0
  have e1 : Mo_isIn N v1 1 99 = CH_within N v1 1 99 := rfl
  rw [e1, hbs, r3]
  rcases in01 N v1 1 99 with q | q <;> rw [q] <;> simp only [zbs]
  · exact ⟨_, _, rfl, rfl, rfl⟩
  rw [if_neg n10, if_neg n10]
  by_cases hneg : v2 < 0
  · rw [if_pos hneg, if_neg]
    · exact ⟨_, _, rfl, rfl, rfl⟩
    · intro c
      have hv := tlt hneg
      have e0 : (0 : Int32).toInt = 0 := by decide
      have m1 : v2.toBitVec.msb = true := by rw [BitVec.msb_eq_toInt, Int32.toInt_toBitVec, decide_eq_true_iff]; omega
      have m2 : (nI (bset (isB V) b)).toBitVec.msb = false := by
        rw [BitVec.msb_eq_toInt, Int32.toInt_toBitVec, decide_eq_false_iff_not, nI_toInt (by omega)]; omega
      have m3 : (v2 &&& (nI (bset (isB V) b) ^^^ (-1))).toBitVec.msb = true := by
        rw [Int32.toBitVec_and, BitVec.msb_and, Int32.toBitVec_xor, BitVec.msb_xor, m1, m2, show ((-1) : Int32).toBitVec.msb = true by decide]; rfl
      rw [c] at m3
      exact absurd m3 (by decide)
  rw [if_neg hneg]
  by_cases c : (v2 &&& (nI (bset (isB V) b) ^^^ (-1))) = 0
  · rw [if_pos c, if_pos c]
    obtain ⟨x, ex, mx⟩ := with_loop (N := N) (l := v1) (s := v2) b2 l2 v3 r1 b 0 N N v2 (by omega) (by omega) (by omega)
    have ex : Valley_withThoseBeside N V v2 = some x := ex
    have mx : Mo_fresh_h33 N M v1 v2 N v2 0 = Mo_fresh_h81 N M v1 x N (-1) (-1) 0 := mx
    rw [mx]
    have he : Valley_eachIsKnown N V = Valley_eachIsKnown_h2 N V N (nI 0) := rfl
    rw [he]
    rcases each_loop (N := N) hN b2 v3 r3 b 0 N (by omega) (by omega) with ⟨ha, ee⟩ | ⟨ha, ee⟩ <;> rw [ee] <;> simp only [zbs]
    · rw [if_pos trivial]
      have stay : ∀ (r t f : Nat) (far : Int32), t + r = 12 → r < f → Mo_fresh_h81 N M v1 x f (-1) far (nI t) = some (-1) := by
        intro r
        induction r with
        | zero =>
          intro t f far ht hf
          obtain ⟨f', rfl⟩ : ∃ f', f = f' + 1 := ⟨f - 1, by omega⟩
          rw [Mo_fresh_h81_s]
          unfold Mo_fresh_b81
          rw [if_pos ((zleR (k := 12) (by omega) (by decide)).mpr (by omega))]
        | succ r ih =>
          intro t f far ht hf
          obtain ⟨f', rfl⟩ : ∃ f', f = f' + 1 := ⟨f - 1, by omega⟩
          obtain ⟨s, h1, h2, h3⟩ := new_eq (N := N) (l := v1) (t := nI t) hN b2 b3 r4 l3 r5 r1
          have s0 : s = 0 := h1.resolve_right (fun q => (h2.mp q).2 ha)
          rw [Mo_fresh_h81_s]
          unfold Mo_fresh_b81
          rw [if_neg (fun q => absurd ((zleR (k := 12) (by omega) (by decide)).mp q) (by omega)), h3]
          simp only [zbs]
          rw [if_pos s0]
          unfold Mo_fresh_b126
          rw [nI_1]
          exact ih (t + 1) f' far (by omega) (by omega)
      exact ⟨_, _, rfl, stay 12 0 N (-1) (by omega) (by omega), rfl⟩
    · rw [if_neg n10, ex]
      simp only [zbs]
      have lock : ∀ (r t f g : Nat) (best far : Int32), t + r = 12 → r < f → r < g → ∃ w, CH_fresh_h57 N s0 V v1 x f best far (nI t) = some w ∧ Mo_fresh_h81 N M v1 x g best far (nI t) = some w := by
        intro r
        induction r with
        | zero =>
          intro t f g best far ht hf hg
          obtain ⟨f', rfl⟩ : ∃ f', f = f' + 1 := ⟨f - 1, by omega⟩
          obtain ⟨g', rfl⟩ : ∃ g', g = g' + 1 := ⟨g - 1, by omega⟩
          rw [CH_fresh_h57_s, Mo_fresh_h81_s]
          unfold CH_fresh_b57 Mo_fresh_b81
          rw [if_pos ((zleR (k := 12) (by omega) (by decide)).mpr (by omega)), if_pos ((zleR (k := 12) (by omega) (by decide)).mpr (by omega))]
          exact ⟨best, rfl, rfl⟩
        | succ r ih =>
          intro t f g best far ht hf hg
          obtain ⟨f', rfl⟩ : ∃ f', f = f' + 1 := ⟨f - 1, by omega⟩
          obtain ⟨g', rfl⟩ : ∃ g', g = g' + 1 := ⟨g - 1, by omega⟩
          obtain ⟨s, h1, h2, h3⟩ := new_eq (N := N) (l := v1) (t := nI t) hN b2 b3 r4 l3 r5 r1
          obtain ⟨d, ed, md⟩ := near_two (N := N) (s := x) hN (show t < 12 by omega) b2 hV l2 v3 r1
          rw [CH_fresh_h57_s, Mo_fresh_h81_s]
          unfold CH_fresh_b57 Mo_fresh_b81
          rw [if_neg (fun q => absurd ((zleR (k := 12) (by omega) (by decide)).mp q) (by omega)), if_neg (fun q => absurd ((zleR (k := 12) (by omega) (by decide)).mp q) (by omega)), ed, h3]
          simp only [zbs]
          unfold CH_fresh_b104 Mo_fresh_b126
          rw [md]
          simp only [zbs]
          rw [nI_1]
          rcases hasBeast_eq (N := N) (t := nI t) (l := v1) hN b2 v3 r3 with ⟨hb1, eb⟩ | ⟨hb1, eb⟩ <;> rw [eb] <;> simp only [zbs]
          · have s0 : s = 0 := h1.resolve_right (fun q => (h2.mp q).1 hb1)
            rw [if_pos s0, if_neg n10]
            by_cases q : d ≤ far
            · rw [if_pos q]; exact ih (t + 1) f' g' best far (by omega) (by omega) (by omega)
            · rw [if_neg q]; exact ih (t + 1) f' g' best far (by omega) (by omega) (by omega)
          · have s1 : s = 1 := h2.mpr ⟨hb1, ha⟩
            rw [if_neg (show ¬ s = 0 by rw [s1]; decide), if_pos trivial]
            by_cases q : d ≤ far
            · have q' := tle q
              rw [if_pos q, if_neg (fun z => by have := tlt z; omega)]
              exact ih (t + 1) f' g' best far (by omega) (by omega) (by omega)
            · have q' := tnle q
              rw [if_neg q, if_pos (Int32.lt_iff_toInt_lt.mpr (by omega))]
              exact ih (t + 1) f' g' (nI t) d (by omega) (by omega) (by omega)
      obtain ⟨w, ew, mw⟩ := lock 12 0 N N (-1) (-1) (by omega) (by omega) (by omega)
      exact ⟨w, w, ew, mw, rfl⟩
  · rw [if_neg c, if_neg c]
    exact ⟨_, _, rfl, rfl, rfl⟩
