/-! dealt: the class's search -/
/-- the Dealer and a row, with d beasts dealt -/
def dR (D : zSt) (f : Nat → Int32) (L w : Nat → Nat) (k m d : Nat) : Prop := zI D 0 = nI k ∧ zI D 1 = nI m ∧ k ≤ 8 ∧ (m = 1 ∨ m = 2) ∧ (∀ j, j < k → zA D 2 j = nI (L j) ∧ 1 ≤ L j ∧ L j ≤ 99) ∧ ∀ j, j < d → f j = nI (w j) ∧ w j < 12
theorem hasLoud_loop {N d t : Nat} {D : zSt} {f : Nat → Int32} {x : Int32} (hd : d ≤ 8) : ∀ (r i g : Nat), i + r = d → r < g → ((∃ c, i ≤ c ∧ c < d ∧ f c = nI t ∧ zA D 2 c = x) ∧ Dealer_hasLoud_h3 N D 8 f x (nI d) (nI t) g (nI i) = some 1) ∨ ((¬ ∃ c, i ≤ c ∧ c < d ∧ f c = nI t ∧ zA D 2 c = x) ∧ Dealer_hasLoud_h3 N D 8 f x (nI d) (nI t) g (nI i) = some 0) := by
  intro r
  induction r with
  | zero =>
    intro i g hi hg
    obtain ⟨g', rfl⟩ : ∃ g', g = g' + 1 := ⟨g - 1, by omega⟩
    rw [Dealer_hasLoud_h3_s]
    unfold Dealer_hasLoud_b3
    rw [if_pos ((nI_leI (by omega) (by omega)).mpr (by omega))]
    exact Or.inr ⟨fun ⟨c, h1, h2, _⟩ => by omega, rfl⟩
  | succ r ih =>
    intro i g hi hg
    obtain ⟨g', rfl⟩ : ∃ g', g = g' + 1 := ⟨g - 1, by omega⟩
    have go : ¬ (f i = nI t ∧ zA D 2 i = x) → ((∃ c, i ≤ c ∧ c < d ∧ f c = nI t ∧ zA D 2 c = x) ∧ Dealer_hasLoud_b31 N (Dealer_hasLoud_h3 N D 8 f x (nI d) (nI t) g') D 8 f x (nI d) (nI t) (nI i) = some 1) ∨ ((¬ ∃ c, i ≤ c ∧ c < d ∧ f c = nI t ∧ zA D 2 c = x) ∧ Dealer_hasLoud_b31 N (Dealer_hasLoud_h3 N D 8 f x (nI d) (nI t) g') D 8 f x (nI d) (nI t) (nI i) = some 0) := by
      intro hno
      have e : (∃ c, i ≤ c ∧ c < d ∧ f c = nI t ∧ zA D 2 c = x) ↔ ∃ c, i + 1 ≤ c ∧ c < d ∧ f c = nI t ∧ zA D 2 c = x := by
        constructor
        · rintro ⟨c, h1, h2, h3⟩
          refine ⟨c, ?_, h2, h3⟩
          rcases Nat.eq_or_lt_of_le h1 with q | q
          · subst q; exact absurd h3 hno
          · exact q
        · rintro ⟨c, h1, h2⟩
          exact ⟨c, by omega, h2⟩
      unfold Dealer_hasLoud_b31
      rw [nI_1, e]
      exact ih (i + 1) g' (by omega) (by omega)
    have v : vp_in (nI i) 8 := vp_in_nI (by omega) (by decide)
    rw [Dealer_hasLoud_h3_s]
    unfold Dealer_hasLoud_b3
    rw [if_neg (fun q => absurd ((nI_leI (by omega) (by omega)).mp q) (by omega)), zck_in v, nI_clamp (by omega), zck_in v]
    by_cases c : f i = nI t
    · rw [if_pos c]
      by_cases c2 : zA D 2 i = x
      · rw [if_pos c2]
        exact Or.inl ⟨⟨i, Nat.le_refl _, by omega, c, c2⟩, rfl⟩
      · rw [if_neg c2]; exact go (fun q => c2 q.2)
    · rw [if_neg c]; exact go (fun q => c q.1)
/-- two of the same tone that don't go with the d-th -/
def bad2 (L w : Nat → Nat) (d t a b : Nat) : Prop := w a = t ∧ w b = t ∧ (L a + L b = L d ∨ L a + L d = L b ∨ L b + L d = L a ∨ ∃ c, c < d ∧ w c = t ∧ L c + L d = L a + L b)
theorem two_inner {N k m d t a : Nat} {D : zSt} {f : Nat → Int32} {L w : Nat → Nat} (hN : 50000000 ≤ N) (kh : Int32 → Option Int32) (hD : dR D f L w k m d) (hd : d < k) (ht : t < 12) (ha : a < d) : ∀ (r i g : Nat), i + r = a → r < g → ((∃ b, i ≤ b ∧ b < a ∧ bad2 L w d t a b) ∧ Dealer_twoAreKnown_h20 N kh D 8 f (nI d) (nI t) (nI (L d)) (nI a) g (nI i) = some 0) ∨ ((¬ ∃ b, i ≤ b ∧ b < a ∧ bad2 L w d t a b) ∧ Dealer_twoAreKnown_h20 N kh D 8 f (nI d) (nI t) (nI (L d)) (nI a) g (nI i) = kh (nI (a + 1))) := by
  obtain ⟨d0, d1, k8, hm, hL, hw⟩ := hD
  intro r
  induction r with
  | zero =>
    intro i g hi hg
    obtain ⟨g', rfl⟩ : ∃ g', g = g' + 1 := ⟨g - 1, by omega⟩
    rw [Dealer_twoAreKnown_h20_s]
    unfold Dealer_twoAreKnown_b20
    rw [if_pos ((nI_leI (by omega) (by omega)).mpr (by omega)), nI_1]
    exact Or.inr ⟨fun ⟨c, h1, h2, _⟩ => by omega, rfl⟩
  | succ r ih =>
    intro i g hi hg
    obtain ⟨g', rfl⟩ : ∃ g', g = g' + 1 := ⟨g - 1, by omega⟩
    have go : ¬ bad2 L w d t a i → ((∃ b, i ≤ b ∧ b < a ∧ bad2 L w d t a b) ∧ Dealer_twoAreKnown_b109 N kh (Dealer_twoAreKnown_h20 N kh D 8 f (nI d) (nI t) (nI (L d)) (nI a) g') D 8 f (nI d) (nI t) (nI (L d)) (nI a) (nI i) = some 0) ∨ ((¬ ∃ b, i ≤ b ∧ b < a ∧ bad2 L w d t a b) ∧ Dealer_twoAreKnown_b109 N kh (Dealer_twoAreKnown_h20 N kh D 8 f (nI d) (nI t) (nI (L d)) (nI a) g') D 8 f (nI d) (nI t) (nI (L d)) (nI a) (nI i) = kh (nI (a + 1))) := by
      intro hno
      have e : (∃ b, i ≤ b ∧ b < a ∧ bad2 L w d t a b) ↔ ∃ b, i + 1 ≤ b ∧ b < a ∧ bad2 L w d t a b := by
        constructor
        · rintro ⟨c, h1, h2, h3⟩
          refine ⟨c, ?_, h2, h3⟩
          rcases Nat.eq_or_lt_of_le h1 with q | q
          · subst q; exact absurd h3 hno
          · exact q
        · rintro ⟨c, h1, h2⟩
          exact ⟨c, by omega, h2⟩
      unfold Dealer_twoAreKnown_b109
      rw [nI_1, e]
      exact ih (i + 1) g' (by omega) (by omega)
    have va : vp_in (nI a) 8 := vp_in_nI (by omega) (by decide)
    have vi : vp_in (nI i) 8 := vp_in_nI (by omega) (by decide)
    obtain ⟨fa, wa⟩ := hw a ha
    obtain ⟨fi, wi⟩ := hw i (by omega)
    obtain ⟨La, la1, la2⟩ := hL a (by omega)
    obtain ⟨Li, li1, li2⟩ := hL i (by omega)
    obtain ⟨Ld, ld1, ld2⟩ := hL d hd
    rw [Dealer_twoAreKnown_h20_s]
    unfold Dealer_twoAreKnown_b20
    rw [if_neg (fun q => absurd ((nI_leI (by omega) (by omega)).mp q) (by omega)), zck_in va, nI_clamp (n := a) (by omega), fa]
    by_cases c1 : w a = t
    · rw [if_pos (by rw [c1]), zck_in vi, nI_clamp (n := i) (by omega), fi]
      by_cases c2 : w i = t
      · rw [if_pos (by rw [c2]), zck_in va, zck_in vi, La, Li, nI_add]
        by_cases c3 : L a + L i = L d
        · rw [if_pos (by rw [c3])]
          exact Or.inl ⟨⟨i, Nat.le_refl _, by omega, c1, c2, Or.inl c3⟩, rfl⟩
        · rw [if_neg (fun q => c3 ((nI_eq (by omega) (by omega)).mp q)), zck_in va, zck_in vi]
          have ea := nI_toInt (n := L a) (by omega)
          have ei := nI_toInt (n := L i) (by omega)
          have ed := nI_toInt (n := L d) (by omega)
          have es := nI_toInt (n := L a + L i) (by omega)
          have s1 := tsub (nI (L a)) (nI (L i)) (by omega) (by omega)
          have s2 := tneg (nI (L a) - nI (L i)) (by omega) (by omega)
          have s3 := tsub (nI (L a + L i)) (nI (L d)) (by omega) (by omega)
          have e0 : (0 : Int32).toInt = 0 := by decide
          have hab : ∃ y : Int32, Math_abs N (nI (L a) - nI (L i)) = some y ∧ (y = nI (L d) ↔ (L a + L d = L i ∨ L i + L d = L a)) := by
            unfold Math_abs Math_abs_b0
            by_cases q : 0 ≤ nI (L a) - nI (L i)
            · have q' := tle q
              refine ⟨_, if_pos q, ⟨fun z => ?_, fun z => Int32.toInt_inj.mp (by omega)⟩⟩
              have := teq z; omega
            · have q' := tnle q
              refine ⟨_, if_neg q, ⟨fun z => ?_, fun z => Int32.toInt_inj.mp (by omega)⟩⟩
              have := teq z; omega
          obtain ⟨y, ey, hy⟩ := hab
          rw [ey]
          simp only [zbs]
          by_cases c4 : y = nI (L d)
          · rw [if_pos c4]
            refine Or.inl ⟨⟨i, Nat.le_refl _, by omega, c1, c2, ?_⟩, rfl⟩
            rcases hy.mp c4 with q | q
            · exact Or.inr (Or.inl q)
            · exact Or.inr (Or.inr (Or.inl q))
          · rw [if_neg c4]
            have hh : Dealer_hasLoud N D 8 f (nI (L a + L i) - nI (L d)) (nI d) (nI t) = Dealer_hasLoud_h3 N D 8 f (nI (L a + L i) - nI (L d)) (nI d) (nI t) N (nI 0) := rfl
            rw [hh]
            rcases hasLoud_loop (N := N) (D := D) (f := f) (x := nI (L a + L i) - nI (L d)) (t := t) (show d ≤ 8 by omega) d 0 N (by omega) (by omega) with ⟨⟨c, _, h2, h3, h4⟩, eh⟩ | ⟨hno, eh⟩ <;> rw [eh] <;> simp only [zbs]
            · rw [if_neg n10]
              obtain ⟨fc, wc⟩ := hw c h2
              obtain ⟨Lc, lc1, lc2⟩ := hL c (by omega)
              rw [fc] at h3
              rw [Lc] at h4
              have h4 := teq h4
              have ec := nI_toInt (n := L c) (by omega)
              exact Or.inl ⟨⟨i, Nat.le_refl _, by omega, c1, c2, Or.inr (Or.inr (Or.inr ⟨c, h2, (nI_eq (by omega) (by omega)).mp h3, by omega⟩))⟩, rfl⟩
            · rw [if_pos trivial]
              refine go (fun q => ?_)
              rcases q.2.2 with q | q | q | ⟨c, x1, x2, x3⟩
              · exact c3 q
              · exact c4 (hy.mpr (Or.inl q))
              · exact c4 (hy.mpr (Or.inr q))
              · obtain ⟨fc, wc⟩ := hw c x1
                obtain ⟨Lc, lc1, lc2⟩ := hL c (by omega)
                have ec := nI_toInt (n := L c) (by omega)
                exact hno ⟨c, Nat.zero_le _, x1, by rw [fc, x2], by rw [Lc]; exact Int32.toInt_inj.mp (by omega)⟩
      · rw [if_neg (fun q => c2 ((nI_eq (by omega) (by omega)).mp q))]; exact go (fun q => c2 q.2.1)
    · rw [if_neg (fun q => c1 ((nI_eq (by omega) (by omega)).mp q))]; exact go (fun q => c1 q.1)
theorem two_outer {N k m d t : Nat} {D : zSt} {f : Nat → Int32} {L w : Nat → Nat} (hN : 50000000 ≤ N) (hD : dR D f L w k m d) (hd : d < k) (ht : t < 12) : ∀ (r a g : Nat), a + r = d → r < g → ((∃ x b, a ≤ x ∧ x < d ∧ b < x ∧ bad2 L w d t x b) ∧ Dealer_twoAreKnown_h11 N D 8 f (nI d) (nI t) (nI (L d)) g (nI a) = some 0) ∨ ((¬ ∃ x b, a ≤ x ∧ x < d ∧ b < x ∧ bad2 L w d t x b) ∧ Dealer_twoAreKnown_h11 N D 8 f (nI d) (nI t) (nI (L d)) g (nI a) = some 1) := by
  have k8 := hD.2.2.1
  intro r
  induction r with
  | zero =>
    intro a g ha hg
    obtain ⟨g', rfl⟩ : ∃ g', g = g' + 1 := ⟨g - 1, by omega⟩
    rw [Dealer_twoAreKnown_h11_s]
    unfold Dealer_twoAreKnown_b11
    rw [if_pos ((nI_leI (by omega) (by omega)).mpr (by omega))]
    exact Or.inr ⟨fun ⟨x, b, h1, h2, _⟩ => by omega, rfl⟩
  | succ r ih =>
    intro a g ha hg
    obtain ⟨g', rfl⟩ : ∃ g', g = g' + 1 := ⟨g - 1, by omega⟩
    rw [Dealer_twoAreKnown_h11_s]
    unfold Dealer_twoAreKnown_b11
    rw [if_neg (fun q => absurd ((nI_leI (by omega) (by omega)).mp q) (by omega))]
    rcases two_inner (N := N) hN (Dealer_twoAreKnown_h11 N D 8 f (nI d) (nI t) (nI (L d)) g') hD hd ht (show a < d by omega) a 0 N (by omega) (by omega) with ⟨⟨b, _, b2, b3⟩, e⟩ | ⟨hno, e⟩
    · exact Or.inl ⟨⟨a, b, Nat.le_refl _, by omega, b2, b3⟩, e⟩
    · have q : (∃ x b, a ≤ x ∧ x < d ∧ b < x ∧ bad2 L w d t x b) ↔ ∃ x b, a + 1 ≤ x ∧ x < d ∧ b < x ∧ bad2 L w d t x b := by
        constructor
        · rintro ⟨x, b, h1, h2, h3, h4⟩
          refine ⟨x, b, ?_, h2, h3, h4⟩
          rcases Nat.eq_or_lt_of_le h1 with q | q
          · subst q; exact absurd ⟨b, Nat.zero_le _, h3, h4⟩ hno
          · exact q
        · rintro ⟨x, b, h1, h2⟩
          exact ⟨x, b, by omega, h2⟩
      rw [q]
      rcases ih (a + 1) g' (by omega) (by omega) with ⟨h1, h2⟩ | ⟨h1, h2⟩
      · exact Or.inl ⟨h1, e.trans h2⟩
      · exact Or.inr ⟨h1, e.trans h2⟩
theorem known_loop {N k m d t : Nat} {D : zSt} {f : Nat → Int32} {L w : Nat → Nat} (hN : 50000000 ≤ N) (hD : dR D f L w k m d) (hd : d < k) (ht : t < 12) : ∀ (r a g : Nat), a + r = d → r < g → (∀ x, x < a → ¬ (w x = t ∧ L x = L d)) → (kn L w m d t ∧ Dealer_isKnown_h3 N D 8 f (nI d) (nI t) g (nI a) = some 1) ∨ (¬ kn L w m d t ∧ Dealer_isKnown_h3 N D 8 f (nI d) (nI t) g (nI a) = some 0) := by
  have hD0 := hD
  obtain ⟨d0, d1, k8, hm, hL, hw⟩ := hD
  intro r
  induction r with
  | zero =>
    intro a g ha hg hb
    obtain ⟨g', rfl⟩ : ∃ g', g = g' + 1 := ⟨g - 1, by omega⟩
    have hb : ∀ x, x < d → ¬ (w x = t ∧ L x = L d) := fun x hx => hb x (by omega)
    rw [Dealer_isKnown_h3_s]
    unfold Dealer_isKnown_b3 Dealer_isKnown_b59
    rw [if_pos ((nI_leI (by omega) (by omega)).mpr (by omega)), d1]
    rcases hm with e | e
    · rw [e, if_pos (show nI 1 = 1 from rfl)]
      exact Or.inl ⟨⟨hb, Or.inl rfl⟩, rfl⟩
    · rw [e, if_neg (by decide)]
      have hh : Dealer_twoAreKnown N D 8 f (nI d) (nI t) = Dealer_twoAreKnown_h11 N D 8 f (nI d) (nI t) (nI (L d)) N (nI 0) := by
        unfold Dealer_twoAreKnown Dealer_twoAreKnown_b0
        rw [zck_in (vp_in_nI (by omega) (by decide)), nI_clamp (by omega), (hL d hd).1]
        rfl
      rw [hh]
      rcases two_outer (N := N) hN hD0 hd ht d 0 N (by omega) (by omega) with ⟨⟨x, b, _, h2, h3, h4⟩, eh⟩ | ⟨hno, eh⟩ <;> rw [eh] <;> simp only [zbs]
      · rw [if_pos trivial]
        refine Or.inr ⟨fun q => ?_, rfl⟩
        obtain ⟨q1, q2, q3, q4⟩ := (q.2.resolve_left (by decide)) x b h3 h2 h4.1 h4.2.1
        rcases h4.2.2 with z | z | z | z
        · exact q1 z
        · exact q2 z
        · exact q3 z
        · exact q4 z
      · rw [if_neg n10]
        exact Or.inl ⟨⟨hb, Or.inr (fun x b h1 h2 wx wb => ⟨fun z => hno ⟨x, b, Nat.zero_le _, h2, h1, wx, wb, Or.inl z⟩, fun z => hno ⟨x, b, Nat.zero_le _, h2, h1, wx, wb, Or.inr (Or.inl z)⟩, fun z => hno ⟨x, b, Nat.zero_le _, h2, h1, wx, wb, Or.inr (Or.inr (Or.inl z))⟩, fun z => hno ⟨x, b, Nat.zero_le _, h2, h1, wx, wb, Or.inr (Or.inr (Or.inr z))⟩⟩)⟩, rfl⟩
  | succ r ih =>
    intro a g ha hg hb
    obtain ⟨g', rfl⟩ : ∃ g', g = g' + 1 := ⟨g - 1, by omega⟩
    have va : vp_in (nI a) 8 := vp_in_nI (by omega) (by decide)
    have vd : vp_in (nI d) 8 := vp_in_nI (by omega) (by decide)
    obtain ⟨fa, wa⟩ := hw a (by omega)
    obtain ⟨La, la1, la2⟩ := hL a (by omega)
    obtain ⟨Ld, ld1, ld2⟩ := hL d hd
    have go : ¬ (w a = t ∧ L a = L d) → (kn L w m d t ∧ Dealer_isKnown_b35 N (Dealer_isKnown_h3 N D 8 f (nI d) (nI t) g') D 8 f (nI d) (nI t) (nI a) = some 1) ∨ (¬ kn L w m d t ∧ Dealer_isKnown_b35 N (Dealer_isKnown_h3 N D 8 f (nI d) (nI t) g') D 8 f (nI d) (nI t) (nI a) = some 0) := by
      intro hno
      unfold Dealer_isKnown_b35
      rw [nI_1]
      refine ih (a + 1) g' (by omega) (by omega) (fun x hx => ?_)
      by_cases e : x = a
      · rw [e]; exact hno
      · exact hb x (by omega)
    rw [Dealer_isKnown_h3_s]
    unfold Dealer_isKnown_b3
    rw [if_neg (fun q => absurd ((nI_leI (by omega) (by omega)).mp q) (by omega)), zck_in va, nI_clamp (n := a) (by omega), fa]
    by_cases c1 : w a = t
    · rw [if_pos (by rw [c1]), zck_in va, zck_in vd, nI_clamp (n := d) (by omega), La, Ld]
      by_cases c2 : L a = L d
      · rw [if_pos (by rw [c2])]
        exact Or.inr ⟨fun q => q.1 a (by omega) ⟨c1, c2⟩, rfl⟩
      · rw [if_neg (fun q => c2 ((nI_eq (by omega) (by omega)).mp q))]; exact go (fun q => c2 q.2)
    · rw [if_neg (fun q => c1 ((nI_eq (by omega) (by omega)).mp q))]; exact go (fun q => c1 q.1)
theorem isKnown_eq {N k m d t : Nat} {D : zSt} {f : Nat → Int32} {L w : Nat → Nat} (hN : 50000000 ≤ N) (hD : dR D f L w k m d) (hd : d < k) (ht : t < 12) : (kn L w m d t ∧ Dealer_isKnown N D 8 f (nI d) (nI t) = some 1) ∨ (¬ kn L w m d t ∧ Dealer_isKnown N D 8 f (nI d) (nI t) = some 0) := by
  have k8 := hD.2.2.1
  exact known_loop hN hD hd ht d 0 N (by omega) (by omega) (fun x hx => absurd hx (by omega))
