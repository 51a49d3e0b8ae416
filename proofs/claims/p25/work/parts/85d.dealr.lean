/-! dealt: the reference's test and its rows -/
def fw (m : Nat) (a : Nat) : Bool := decide (cbt a 9 ≤ m)
theorem fw_le {m : Nat} (hm : m ≤ 2) : ∀ a, bcnt (fw m) a ≤ fct a := by
  intro a
  induction a with
  | zero => exact Nat.le_refl _
  | succ a ih =>
    show bcnt (fw m) a + (if fw m a then 1 else 0) ≤ fct a + if cbt a 9 ≤ 2 then 1 else 0
    by_cases q : fw m a = true
    · have q2 : cbt a 9 ≤ m := of_decide_eq_true q
      rw [if_pos q, if_pos (by omega)]; omega
    · rw [if_neg q]; split <;> omega
theorem fw_37 {m k : Nat} (hm : m ≤ 2) (hk : k ≤ 8) : bcnt (fw m) (2 ^ k) ≤ 37 := by
  have hp : 2 ^ k ≤ 256 := Nat.le_trans (Nat.pow_le_pow_right (by decide) hk) (by decide)
  exact Nat.le_trans (fw_le hm _) (fct_le _ hp)
theorem enum_ex (p : Nat → Bool) (b : Nat) : ∃ e : Nat → Nat, (∀ j, j < bcnt p b → e j < b ∧ p (e j) = true ∧ bcnt p (e j) = j) ∧ ∀ x, x < b → p x = true → e (bcnt p x) = x := by
  have key : ∀ j, ∃ x, j < bcnt p b → x < b ∧ p x = true ∧ bcnt p x = j := fun j => by
    by_cases q : j < bcnt p b
    · obtain ⟨x, h1, h2, h3⟩ := bcnt_surj b j q
      exact ⟨x, fun _ => ⟨h1, h2, h3⟩⟩
    · exact ⟨0, fun c => absurd c q⟩
  have inj : ∀ x y, x < b → y < b → p x = true → p y = true → bcnt p x = bcnt p y → x = y := fun x y hx hy px py e => by
    rcases Nat.lt_trichotomy x y with l | l | l
    · have := bcnt_step (p := p) l px; omega
    · exact l
    · have := bcnt_step (p := p) l py; omega
  refine ⟨fun j => (key j).choose, fun j hj => (key j).choose_spec hj, fun x hx px => ?_⟩
  obtain ⟨h1, h2, h3⟩ := (key (bcnt p x)).choose_spec (bcnt_step (p := p) hx px)
  exact inj _ _ h1 hx h2 px h3
/-- the reference, with a row of tones and the sets of at most m -/
def dM (s : zSt) (L w g : Nat → Nat) (k m : Nat) : Prop := zI s 30 = nI k ∧ k ≤ 8 ∧ m ≤ 2 ∧ zI s 61 = nI (bcnt (fw m) (2 ^ k)) ∧ (∀ j, j < k → zA s 21 j = nI (g j) ∧ g j < 11 ∧ zA s 17 (g j) = nI (L j) ∧ L j ≤ 99) ∧ (∀ j, j < k → zA s 56 j = nI (w j) ∧ w j < 12) ∧ ∀ a, a < 2 ^ k → fw m a = true → zA s 60 (bcnt (fw m) a) = nI a
theorem dM.fr {s z : zSt} {L w g : Nat → Nat} {k m : Nat} {W A : List Nat} (h : dM s L w g k m) (f : Fr W A z s) (e : [30, 61].all (fun k => !W.contains k) = true) (e2 : [17, 21, 56, 60].all (fun k => !A.contains k) = true) : dM z L w g k m := by
  unfold dM
  rw [f.1 30 (off e rfl), f.1 61 (off e rfl), f.2 17 (off e2 rfl), f.2 21 (off e2 rfl), f.2 56 (off e2 rfl), f.2 60 (off e2 rfl)]
  exact h
theorem tk_le {L w : Nat → Nat} {t a : Nat} : ∀ k, (∀ j, j < k → L j ≤ 99) → 0 ≤ tk (vt L w t) k a ∧ tk (vt L w t) k a ≤ 99 * (k : Int) := by
  intro k
  induction k with
  | zero => intro _; exact ⟨Int.le_refl _, Int.le_refl _⟩
  | succ k ih =>
    intro h
    obtain ⟨h1, h2⟩ := ih (fun j hj => h j (by omega))
    have h3 := h k (by omega)
    have h4 : 0 ≤ vt L w t k ∧ vt L w t k ≤ 99 := by
      unfold vt
      split <;> omega
    show 0 ≤ tk (vt L w t) k a + (if a / 2 ^ k % 2 = 1 then vt L w t k else 0) ∧ tk (vt L w t) k a + (if a / 2 ^ k % 2 = 1 then vt L w t k else 0) ≤ 99 * ((k + 1 : Nat) : Int)
    split <;> omega
theorem bit_eq {x i : Nat} (hx : x < 512) (hi : i < 9) : ((nI x >>> (nI i &&& 31)) &&& 1) = nI (x / 2 ^ i % 2) := by
  rw [pk_shrN (by omega) _ i (sl_ok i (by omega)), pk_andN (Nat.lt_of_le_of_lt (Nat.div_le_self _ _) (by omega)) (m := 1) 1 (by decide)]
theorem diff_eq {x y l : Nat} (hx : x < 2) (hy : y < 2) (hl : l ≤ 99) : ((nI x - nI y) * nI l).toInt = (if x = 1 then (l : Int) else 0) - (if y = 1 then (l : Int) else 0) := by
  have ex := nI_toInt (n := x) (by omega)
  have ey := nI_toInt (n := y) (by omega)
  have el := nI_toInt (n := l) (by omega)
  have es := tsub (nI x) (nI y) (by omega) (by omega)
  obtain ⟨d, hd⟩ : ∃ d : Int, d = (x : Int) - y := ⟨_, rfl⟩
  have e : (nI x - nI y).toInt = d := by omega
  have hc : d = 0 ∨ d = 1 ∨ d = -1 := by omega
  have h1 : (nI l).toInt * d = (if x = 1 then (l : Int) else 0) - (if y = 1 then (l : Int) else 0) := by
    rw [el]
    rcases hc with q | q | q <;> rw [q] <;> split <;> split <;> omega
  have h2 : -99 ≤ (nI l).toInt * d ∧ (nI l).toInt * d ≤ 99 := by
    rw [h1]
    split <;> split <;> omega
  rw [tmull (nI l) (nI x - nI y) d e (by omega) (by omega), h1]
theorem alike_zero {N : Nat} {va vb : Int32} (g0 : zSt) : ∀ (r i f : Nat) (s : zSt), i + r = 12 → r < f → (∀ t, t < i → zA s 59 t = 0) → Fr [] [59] s g0 → ∃ s', (∀ t, t < 12 → zA s' 59 t = 0) ∧ Fr [] [59] s' g0 ∧ Mo_areAlike_h2 N va vb f s (nI i) = Mo_areAlike_h23 N va vb N s' (nI 0) := by
  intro r
  induction r with
  | zero =>
    intro i f s hi hf hz hF
    obtain ⟨f', rfl⟩ : ∃ f', f = f' + 1 := ⟨f - 1, by omega⟩
    rw [Mo_areAlike_h2_s]
    unfold Mo_areAlike_b2
    rw [if_pos ((zleR (k := 12) (by omega) (by decide)).mpr (by omega))]
    exact ⟨s, fun t ht => hz t (by omega), hF, rfl⟩
  | succ r ih =>
    intro i f s hi hf hz hF
    obtain ⟨f', rfl⟩ : ∃ f', f = f' + 1 := ⟨f - 1, by omega⟩
    rw [Mo_areAlike_h2_s]
    unfold Mo_areAlike_b2
    rw [if_neg (fun q => absurd ((zleR (k := 12) (by omega) (by decide)).mp q) (by omega)), zck_in (vp_in_nI (by omega) (by decide)), nI_clamp (by omega), nI_1]
    refine ih (i + 1) f' _ (by omega) (by omega) (fun t ht => ?_) (Fr.sA hF rfl)
    rw [zA_sA, if_pos rfl, upd_at]
    by_cases e : t = i
    · rw [if_pos e]
    · rw [if_neg e]; exact hz t (by omega)
theorem alike_sum {N k m a b : Nat} {g0 : zSt} {L w g : Nat → Nat} (hD : dM g0 L w g k m) (ha : a < 512) (hb : b < 512) : ∀ (r i f : Nat) (s : zSt), i + r = k → r < f → Fr [] [59] s g0 → (∀ t, t < 12 → (zA s 59 t).toInt = tk (vt L w t) i a - tk (vt L w t) i b) → ∃ s', Fr [] [59] s' g0 ∧ (∀ t, t < 12 → (zA s' 59 t).toInt = tk (vt L w t) k a - tk (vt L w t) k b) ∧ Mo_areAlike_h23 N (nI a) (nI b) f s (nI i) = Mo_areAlike_h79 N N s' 1 (nI 0) := by
  intro r
  induction r with
  | zero =>
    intro i f s hi hf hF hz
    obtain ⟨f', rfl⟩ : ∃ f', f = f' + 1 := ⟨f - 1, by omega⟩
    obtain ⟨d30, k8, _⟩ := hD.fr hF rfl rfl
    have e : i = k := by omega
    subst e
    rw [Mo_areAlike_h23_s]
    unfold Mo_areAlike_b23
    rw [d30, if_pos ((nI_leI (by omega) (by omega)).mpr (Nat.le_refl _))]
    exact ⟨s, hF, hz, rfl⟩
  | succ r ih =>
    intro i f s hi hf hF hz
    obtain ⟨f', rfl⟩ : ∃ f', f = f' + 1 := ⟨f - 1, by omega⟩
    obtain ⟨d30, k8, _, _, dg, dw, _⟩ := hD.fr hF rfl rfl
    obtain ⟨e21, gi, e17, li⟩ := dg i (by omega)
    obtain ⟨e56, wi⟩ := dw i (by omega)
    have v9 : vp_in (nI i) 9 := vp_in_nI (by omega) (by decide)
    have v12 : vp_in (nI (w i)) 12 := vp_in_nI (by omega) (by decide)
    have v11 : vp_in (nI (g i)) 11 := vp_in_nI (by omega) (by decide)
    rw [Mo_areAlike_h23_s]
    unfold Mo_areAlike_b23
    rw [d30, if_neg (fun q => absurd ((nI_leI (by omega) (by omega)).mp q) (by omega)), zck_in v9, nI_clamp (n := i) (by omega), e56, zck_in v12, zck_in v9, e21, zck_in v11, zck_in v12, nI_clamp (n := w i) (by omega), nI_clamp (n := g i) (by omega), e17, bit_eq ha (by omega), bit_eq hb (by omega), nI_1]
    refine ih (i + 1) f' _ (by omega) (by omega) (Fr.sA hF rfl) (fun t ht => ?_)
    rw [zA_sA, if_pos rfl, upd_at]
    have h0 := hz t ht
    have b1 := tk_le (L := L) (w := w) (t := t) (a := a) i (fun j hj => (dg j (by omega)).2.2.2)
    have b2 := tk_le (L := L) (w := w) (t := t) (a := b) i (fun j hj => (dg j (by omega)).2.2.2)
    show _ = tk (vt L w t) i a + (if a / 2 ^ i % 2 = 1 then vt L w t i else 0) - (tk (vt L w t) i b + (if b / 2 ^ i % 2 = 1 then vt L w t i else 0))
    have hd := diff_eq (x := a / 2 ^ i % 2) (y := b / 2 ^ i % 2) (l := L i) (by omega) (by omega) li
    by_cases e : t = w i
    · subst e
      have hv : vt L w (w i) i = (L i : Int) := if_pos rfl
      rw [if_pos rfl, hv]
      have hb : -99 ≤ ((nI (a / 2 ^ i % 2) - nI (b / 2 ^ i % 2)) * nI (L i)).toInt ∧ ((nI (a / 2 ^ i % 2) - nI (b / 2 ^ i % 2)) * nI (L i)).toInt ≤ 99 := by
        rw [hd]
        split <;> split <;> omega
      rw [tadd _ _ (by omega) (by omega), h0, hd]
      omega
    · have hv : vt L w t i = 0 := if_neg (fun q => e q.symm)
      rw [if_neg e, hv, h0]
      split <;> split <;> omega
theorem alike_test {N : Nat} {s : zSt} : ∀ (r i f : Nat) (v : Int32), i + r = 12 → r < f → ((v = 1 ∧ ∀ t, t < i → zA s 59 t = 0) ∨ (v = 0 ∧ ¬ ∀ t, t < i → zA s 59 t = 0)) → ((∀ t, t < 12 → zA s 59 t = 0) ∧ Mo_areAlike_h79 N f s v (nI i) = some (1, s)) ∨ ((¬ ∀ t, t < 12 → zA s 59 t = 0) ∧ Mo_areAlike_h79 N f s v (nI i) = some (0, s)) := by
  intro r
  induction r with
  | zero =>
    intro i f v hi hf hv
    obtain ⟨f', rfl⟩ : ∃ f', f = f' + 1 := ⟨f - 1, by omega⟩
    have e : i = 12 := by omega
    subst e
    rw [Mo_areAlike_h79_s]
    unfold Mo_areAlike_b79
    rw [if_pos ((zleR (k := 12) (by omega) (by decide)).mpr (by omega))]
    rcases hv with ⟨e, h⟩ | ⟨e, h⟩
    · rw [e, zcb_in (Or.inr rfl)]; exact Or.inl ⟨h, rfl⟩
    · rw [e, zcb_in (Or.inl rfl)]; exact Or.inr ⟨h, rfl⟩
  | succ r ih =>
    intro i f v hi hf hv
    obtain ⟨f', rfl⟩ : ∃ f', f = f' + 1 := ⟨f - 1, by omega⟩
    rw [Mo_areAlike_h79_s]
    unfold Mo_areAlike_b79 Mo_areAlike_b104 Mo_areAlike_b105
    rw [if_neg (fun q => absurd ((zleR (k := 12) (by omega) (by decide)).mp q) (by omega)), nI_1, nI_clamp (by omega)]
    rcases hv with ⟨e, h⟩ | ⟨e, h⟩
    · rw [e, if_neg n10, zck_in (vp_in_nI (by omega) (by decide))]
      by_cases c : zA s 59 i = 0
      · rw [if_pos c]
        refine ih (i + 1) f' 1 (by omega) (by omega) (Or.inl ⟨rfl, fun t ht => ?_⟩)
        by_cases q : t = i
        · rw [q]; exact c
        · exact h t (by omega)
      · rw [if_neg c]
        exact ih (i + 1) f' 0 (by omega) (by omega) (Or.inr ⟨rfl, fun q => c (q i (by omega))⟩)
    · rw [e, if_pos rfl]
      exact ih (i + 1) f' 0 (by omega) (by omega) (Or.inr ⟨rfl, fun q => h (fun t ht => q t (by omega))⟩)
def alkS (L w : Nat → Nat) (k a b : Nat) : Prop := ∀ t, t < 12 → tk (vt L w t) k a = tk (vt L w t) k b
theorem alike_eq {N k m a b : Nat} (hN : 50000000 ≤ N) {s : zSt} {L w g : Nat → Nat} (hD : dM s L w g k m) (ha : a < 512) (hb : b < 512) : ∃ z, Mo_areAlike N s (nI a) (nI b) = some z ∧ Fr [] [59] z.2 s ∧ ((alkS L w k a b ∧ z.1 = 1) ∨ (¬ alkS L w k a b ∧ z.1 = 0)) := by
  obtain ⟨s1, h1, h2, h3⟩ := alike_zero (N := N) (va := nI a) (vb := nI b) s 12 0 N s (by omega) (by omega) (fun t ht => absurd ht (by omega)) Fr.rf
  obtain ⟨s2, g1, g2, g3⟩ := alike_sum (N := N) hD ha hb k 0 N s1 (by omega) (by have := hD.2.1; omega) h2 (fun t ht => by rw [h1 t ht]; rfl)
  have e : Mo_areAlike N s (nI a) (nI b) = Mo_areAlike_h79 N N s2 1 (nI 0) := h3.trans g3
  have q : (∀ t, t < 12 → zA s2 59 t = 0) ↔ alkS L w k a b := by
    constructor
    · intro q t ht
      have := g2 t ht
      rw [q t ht] at this
      have e0 : (0 : Int32).toInt = 0 := by decide
      omega
    · intro q t ht
      have := g2 t ht
      rw [q t ht] at this
      have e0 : (0 : Int32).toInt = 0 := by decide
      exact Int32.toInt_inj.mp (by omega)
  rw [e]
  rcases alike_test (N := N) (s := s2) 12 0 N 1 (by omega) (by omega) (Or.inl ⟨rfl, fun t ht => absurd ht (by omega)⟩) with ⟨h, e⟩ | ⟨h, e⟩
  · exact ⟨_, e, g1, Or.inl ⟨q.mp h, rfl⟩⟩
  · exact ⟨_, e, g1, Or.inr ⟨fun c => h (q.mpr c), rfl⟩⟩
theorem dM.set {s : zSt} {L w g : Nat → Nat} {k m x i : Nat} (h : dM s L w g k m) (hx : x < 2 ^ k) (hf : fw m x = true) (hi : bcnt (fw m) x = i) : zA s 60 i = nI x := by
  rw [← hi]; exact h.2.2.2.2.2.2 x hx hf
theorem known_in {N k m i : Nat} (hN : 50000000 ≤ N) {L w g e : Nat → Nat} (kh : zSt → Int32 → Option (Int32 × zSt)) (hk : k ≤ 8) (hm : m ≤ 2) (hi : i < bcnt (fw m) (2 ^ k)) (he : ∀ j, j < bcnt (fw m) (2 ^ k) → e j < 2 ^ k ∧ fw m (e j) = true ∧ bcnt (fw m) (e j) = j) : ∀ (r j f : Nat) (s : zSt), j + r = i → r < f → dM s L w g k m → ((∃ x, j ≤ x ∧ x < i ∧ alkS L w k (e i) (e x)) ∧ ∃ s', Mo_areKnown_h12 N kh (nI i) f s (nI j) = some (0, s')) ∨ ((¬ ∃ x, j ≤ x ∧ x < i ∧ alkS L w k (e i) (e x)) ∧ ∃ s', dM s' L w g k m ∧ Mo_areKnown_h12 N kh (nI i) f s (nI j) = kh s' (nI (i + 1))) := by
  have h37 := fw_37 hm hk
  have hp : 2 ^ k ≤ 256 := Nat.le_trans (Nat.pow_le_pow_right (by decide) hk) (by decide)
  intro r
  induction r with
  | zero =>
    intro j f s hj hf hD
    obtain ⟨f', rfl⟩ : ∃ f', f = f' + 1 := ⟨f - 1, by omega⟩
    rw [Mo_areKnown_h12_s]
    unfold Mo_areKnown_b12
    rw [if_pos ((nI_leI (by omega) (by omega)).mpr (by omega)), nI_1]
    exact Or.inr ⟨fun ⟨x, h1, h2, _⟩ => by omega, s, hD, rfl⟩
  | succ r ih =>
    intro j f s hj hf hD
    obtain ⟨f', rfl⟩ : ∃ f', f = f' + 1 := ⟨f - 1, by omega⟩
    obtain ⟨a1, a2, a3⟩ := he i hi
    obtain ⟨b1, b2, b3⟩ := he j (by omega)
    obtain ⟨z, ez, hF, hz⟩ := alike_eq (N := N) hN hD (show e i < 512 by omega) (show e j < 512 by omega)
    have hD2 : dM (zmg [60] z.2 s) L w g k m := hD.fr (Fr.mg hF Fr.rf) rfl rfl
    rw [Mo_areKnown_h12_s]
    unfold Mo_areKnown_b12
    rw [if_neg (fun q => absurd ((nI_leI (by omega) (by omega)).mp q) (by omega)), zck_in (vp_in_nI (by omega) (by decide)), zck_in (vp_in_nI (by omega) (by decide)), nI_clamp (n := i) (by omega), nI_clamp (n := j) (by omega), hD.set a1 a2 a3, hD.set b1 b2 b3, ez]
    simp only [zbs]
    rcases hz with ⟨h, e1⟩ | ⟨h, e0⟩
    · rw [if_neg (by rw [e1]; decide)]
      exact Or.inl ⟨⟨j, Nat.le_refl _, by omega, h⟩, _, rfl⟩
    · rw [if_pos e0, nI_1]
      rcases ih (j + 1) f' _ (by omega) (by omega) hD2 with ⟨⟨x, x1, x2, x3⟩, y⟩ | ⟨hno, y⟩
      · exact Or.inl ⟨⟨x, by omega, x2, x3⟩, y⟩
      · refine Or.inr ⟨fun ⟨x, x1, x2, x3⟩ => ?_, y⟩
        rcases Nat.eq_or_lt_of_le x1 with q | q
        · subst q; exact h x3
        · exact hno ⟨x, q, x2, x3⟩
theorem known_out {N k m : Nat} (hN : 50000000 ≤ N) {L w g e : Nat → Nat} (hk : k ≤ 8) (hm : m ≤ 2) (he : ∀ j, j < bcnt (fw m) (2 ^ k) → e j < 2 ^ k ∧ fw m (e j) = true ∧ bcnt (fw m) (e j) = j) : ∀ (r i f : Nat) (s : zSt), i + r = bcnt (fw m) (2 ^ k) → r < f → dM s L w g k m → ∃ z, Mo_areKnown_h2 N f s (nI i) = some z ∧ (((∃ x y, i ≤ x ∧ x < bcnt (fw m) (2 ^ k) ∧ y < x ∧ alkS L w k (e x) (e y)) ∧ z.1 = 0) ∨ ((¬ ∃ x y, i ≤ x ∧ x < bcnt (fw m) (2 ^ k) ∧ y < x ∧ alkS L w k (e x) (e y)) ∧ z.1 = 1)) := by
  have h37 := fw_37 hm hk
  intro r
  induction r with
  | zero =>
    intro i f s hi hf hD
    obtain ⟨f', rfl⟩ : ∃ f', f = f' + 1 := ⟨f - 1, by omega⟩
    rw [Mo_areKnown_h2_s]
    unfold Mo_areKnown_b2
    rw [hD.2.2.2.1, if_pos ((nI_leI (by omega) (by omega)).mpr (by omega))]
    exact ⟨_, rfl, Or.inr ⟨fun ⟨x, y, h1, h2, _⟩ => by omega, rfl⟩⟩
  | succ r ih =>
    intro i f s hi hf hD
    obtain ⟨f', rfl⟩ : ∃ f', f = f' + 1 := ⟨f - 1, by omega⟩
    rw [Mo_areKnown_h2_s]
    unfold Mo_areKnown_b2
    rw [hD.2.2.2.1, if_neg (fun q => absurd ((nI_leI (by omega) (by omega)).mp q) (by omega))]
    rcases known_in (N := N) hN (Mo_areKnown_h2 N f') hk hm (show i < bcnt (fw m) (2 ^ k) by omega) he i 0 N s (by omega) (by omega) hD with ⟨⟨y, _, y2, y3⟩, s', e1⟩ | ⟨hno, s', hD', e1⟩
    · exact ⟨_, e1, Or.inl ⟨⟨i, y, Nat.le_refl _, by omega, y2, y3⟩, rfl⟩⟩
    · obtain ⟨z, ez, hz⟩ := ih (i + 1) f' s' (by omega) (by omega) hD'
      refine ⟨z, e1.trans ez, ?_⟩
      rcases hz with ⟨⟨x, y, x1, x2, x3, x4⟩, h⟩ | ⟨h1, h⟩
      · exact Or.inl ⟨⟨x, y, by omega, x2, x3, x4⟩, h⟩
      · refine Or.inr ⟨fun ⟨x, y, x1, x2, x3, x4⟩ => ?_, h⟩
        rcases Nat.eq_or_lt_of_le x1 with q | q
        · subst q; exact hno ⟨y, Nat.zero_le _, x3, x4⟩
        · exact h1 ⟨x, y, q, x2, x3, x4⟩
theorem known_eq {N k m : Nat} (hN : 50000000 ≤ N) {s : zSt} {L w g : Nat → Nat} (hD : dM s L w g k m) : ∃ z, Mo_areKnown N s = some z ∧ ((refOK L w m k ∧ z.1 = 1) ∨ (¬ refOK L w m k ∧ z.1 = 0)) := by
  obtain ⟨e, he, hx⟩ := enum_ex (fw m) (2 ^ k)
  have hk := hD.2.1
  have hm := hD.2.2.1
  have h37 := fw_37 hm hk
  obtain ⟨z, ez, hz⟩ := known_out (N := N) hN hk hm he (bcnt (fw m) (2 ^ k)) 0 N s (by omega) (by omega) hD
  refine ⟨z, ez, ?_⟩
  rcases hz with ⟨⟨x, y, _, x2, x3, x4⟩, h⟩ | ⟨hno, h⟩
  · refine Or.inr ⟨fun q => ?_, h⟩
    obtain ⟨a1, a2, a3⟩ := he x x2
    obtain ⟨b1, b2, b3⟩ := he y (by omega)
    have hlt : e y < e x := by
      rcases Nat.lt_or_ge (e y) (e x) with l | l
      · exact l
      · have := bcnt_mono (p := fw m) l; omega
    exact q (e x) (e y) hlt a1 (of_decide_eq_true a2) (of_decide_eq_true b2) x4
  · refine Or.inl ⟨fun a b hab ha ca cb q => hno ?_, h⟩
    have fa : fw m a = true := decide_eq_true ca
    have fb : fw m b = true := decide_eq_true cb
    refine ⟨bcnt (fw m) a, bcnt (fw m) b, Nat.zero_le _, bcnt_step (p := fw m) ha fa, bcnt_step (p := fw m) hab fb, ?_⟩
    rw [hx a ha fa, hx b (by omega) fb]
    exact q
/-- the sets of at most m are laid -/
theorem lay_eq {N k m : Nat} (hN : 50000000 ≤ N) (hk : k ≤ 8) (hm : m ≤ 2) {g0 : zSt} (h30 : zI g0 30 = nI k) : ∀ (r a f : Nat) (s : zSt), a + r = 2 ^ k → r < f → Fr [61] [60] s g0 → zI s 61 = nI (bcnt (fw m) a) → (∀ x, x < a → fw m x = true → zA s 60 (bcnt (fw m) x) = nI x) → ∃ s', Mo_layFew_h7 N (nI m) f s (nI a) = some s' ∧ Fr [61] [60] s' g0 ∧ zI s' 61 = nI (bcnt (fw m) (2 ^ k)) ∧ ∀ x, x < 2 ^ k → fw m x = true → zA s' 60 (bcnt (fw m) x) = nI x := by
  have hp : 2 ^ k ≤ 256 := Nat.le_trans (Nat.pow_le_pow_right (by decide) hk) (by decide)
  intro r
  induction r with
  | zero =>
    intro a f s ha hf hF h61 h60
    obtain ⟨f', rfl⟩ : ∃ f', f = f' + 1 := ⟨f - 1, by omega⟩
    have e : a = 2 ^ k := by omega
    subst e
    have e30 : zI s 30 = nI k := by rw [hF.1 30 rfl]; exact h30
    rw [Mo_layFew_h7_s]
    unfold Mo_layFew_b7
    rw [e30, tshl_all k (by omega), if_pos ((nI_leI (by omega) (by omega)).mpr (Nat.le_refl _))]
    exact ⟨s, rfl, hF, h61, h60⟩
  | succ r ih =>
    intro a f s ha hf hF h61 h60
    obtain ⟨f', rfl⟩ : ∃ f', f = f' + 1 := ⟨f - 1, by omega⟩
    have e30 : zI s 30 = nI k := by rw [hF.1 30 rfl]; exact h30
    have hcb := cbt_lt a 9
    have h37 : bcnt (fw m) a ≤ 37 := Nat.le_trans (fw_le hm a) (fct_le a (by omega))
    have hs : bcnt (fw m) (a + 1) = bcnt (fw m) a + if fw m a then 1 else 0 := rfl
    rw [Mo_layFew_h7_s]
    unfold Mo_layFew_b7
    rw [e30, tshl_all k (by omega), if_neg (fun q => absurd ((nI_leI (by omega) (by omega)).mp q) (by omega)), Mo_ones_eq hN (by omega)]
    simp only [zbs]
    unfold Mo_layFew_b48
    by_cases q : cbt a 9 ≤ m
    · have qf : fw m a = true := decide_eq_true q
      rw [if_pos qf] at hs
      rw [if_pos ((nI_leI (by omega) (by omega)).mpr q), h61, zck_in (vp_in_nI (by omega) (by decide)), nI_clamp (by omega), nI_1, nI_1]
      refine ih (a + 1) f' _ (by omega) (by omega) (Fr.pI (Fr.sA hF rfl) rfl) (by rw [zI_pI, if_pos rfl, hs]) (fun x hx fx => ?_)
      rw [zA_pI, zA_sA, if_pos rfl, upd_at]
      by_cases e : x = a
      · rw [e, if_pos rfl]
      · have := bcnt_step (p := fw m) (show x < a by omega) fx
        rw [if_neg (by omega)]
        exact h60 x (by omega) fx
    · have qf : ¬ fw m a = true := fun c => q (of_decide_eq_true c)
      rw [if_neg qf] at hs
      rw [if_neg (fun c => q ((nI_leI (by omega) (by omega)).mp c)), nI_1]
      refine ih (a + 1) f' s (by omega) (by omega) hF (by rw [hs]; exact h61) (fun x hx fx => ?_)
      by_cases e : x = a
      · rw [e] at fx; exact absurd fx qf
      · exact h60 x (by omega) fx
