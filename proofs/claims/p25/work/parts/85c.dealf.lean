/-! dealt: the class's search, and the least -/
/-- how many tones the first j beasts have: one more than the greatest -/
def mx (w : Nat → Nat) : Nat → Nat
  | 0 => 0
  | j + 1 => if mx w j ≤ w j then w j + 1 else mx w j
def wu (w : Nat → Nat) (d s : Nat) : Nat → Nat := fun j => if j = d then s else w j
theorem wu_at (w : Nat → Nat) (d s j : Nat) : wu w d s j = if j = d then s else w j := rfl
theorem mx_congr {w v : Nat → Nat} : ∀ d, (∀ j, j < d → w j = v j) → mx w d = mx v d := by
  intro d
  induction d with
  | zero => intro _; rfl
  | succ d ih => intro h; show (if mx w d ≤ w d then w d + 1 else mx w d) = (if mx v d ≤ v d then v d + 1 else mx v d); rw [ih (fun j hj => h j (by omega)), h d (by omega)]
theorem kn_congr {L w v : Nat → Nat} {m d t : Nat} (h : ∀ j, j < d → w j = v j) : kn L w m d t ↔ kn L v m d t := by
  have half : ∀ {w v : Nat → Nat}, (∀ j, j < d → w j = v j) → kn L w m d t → kn L v m d t := by
    intro w v h q
    refine ⟨fun a ha z => q.1 a ha ⟨by rw [h a ha]; exact z.1, z.2⟩, ?_⟩
    rcases q.2 with q | q
    · exact Or.inl q
    · refine Or.inr (fun a b hb ha wa wb => ?_)
      obtain ⟨q1, q2, q3, q4⟩ := q a b hb ha (by rw [h a ha]; exact wa) (by rw [h b (by omega)]; exact wb)
      exact ⟨q1, q2, q3, fun ⟨c, c1, c2, c3⟩ => q4 ⟨c, c1, by rw [h c c1]; exact c2, c3⟩⟩
  exact ⟨half h, half (fun j hj => (h j hj).symm)⟩
theorem mx_le {w : Nat → Nat} : ∀ d s, (∀ j, j < d → w j < s) → mx w d ≤ s := by
  intro d
  induction d with
  | zero => intro s _; exact Nat.zero_le _
  | succ d ih =>
    intro s h
    have h1 := ih s (fun j hj => h j (by omega))
    have h2 := h d (by omega)
    show (if mx w d ≤ w d then w d + 1 else mx w d) ≤ s
    split <;> omega
theorem lt_mx {w : Nat → Nat} : ∀ d j, j < d → w j < mx w d := by
  intro d
  induction d with
  | zero => intro j h; exact absurd h (by omega)
  | succ d ih =>
    intro j hj
    show w j < (if mx w d ≤ w d then w d + 1 else mx w d)
    by_cases e : j = d
    · subst e; split <;> omega
    · have := ih j (by omega)
      split <;> omega
/-- the row goes on from d -/
def Ext (L w : Nat → Nat) (m k most d : Nat) : Prop := ∃ v : Nat → Nat, (∀ j, j < d → v j = w j) ∧ ∀ j, d ≤ j → j < k → v j ≤ mx v j ∧ v j < most ∧ kn L v m j (v j)
theorem Ext_step {L w : Nat → Nat} {m k most d : Nat} (hd : d < k) : Ext L w m k most d ↔ ∃ s, 0 ≤ s ∧ s ≤ mx w d ∧ s < most ∧ kn L w m d s ∧ Ext L (wu w d s) m k most (d + 1) := by
  constructor
  · rintro ⟨v, v1, v2⟩
    obtain ⟨a1, a2, a3⟩ := v2 d (Nat.le_refl _) hd
    refine ⟨v d, Nat.zero_le _, by rw [← mx_congr d v1]; exact a1, a2, (kn_congr v1).mp a3, v, fun j hj => ?_, fun j h1 h2 => v2 j (by omega) h2⟩
    rw [wu_at]
    by_cases e : j = d
    · rw [if_pos e, e]
    · rw [if_neg e]; exact v1 j (by omega)
  · rintro ⟨s, _, s1, s2, s3, v, v1, v2⟩
    have hv : ∀ j, j < d → v j = w j := fun j hj => by rw [v1 j (by omega), wu_at, if_neg (by omega)]
    have hvd : v d = s := by rw [v1 d (by omega), wu_at, if_pos rfl]
    refine ⟨v, hv, fun j h1 h2 => ?_⟩
    by_cases e : j = d
    · subst e
      rw [hvd]
      exact ⟨by rw [mx_congr j hv]; exact s1, s2, (kn_congr hv).mpr s3⟩
    · exact v2 j (by omega) h2
theorem dealFrom_ok {N k m most : Nat} {D : zSt} {L : Nat → Nat} (hN : 50000000 ≤ N) (hmost : most ≤ 8) : ∀ (r fu d : Nat) (f : Nat → Int32) (w : Nat → Nat), d + r = k → r < fu → dR D f L w k m d → mx w d ≤ d → ∃ x f', Dealer_dealFrom N fu D 8 f (nI d) (nI (mx w d)) (nI most) = some (x, f') ∧ (∀ j, j < d → f' j = f j) ∧ ((x = 1 ∧ Ext L w m k most d) ∨ (x = 0 ∧ ¬ Ext L w m k most d)) := by
  intro r
  induction r with
  | zero =>
    intro fu d f w hd hf hD hm
    obtain ⟨fu', rfl⟩ : ∃ f', fu = f' + 1 := ⟨fu - 1, by omega⟩
    have k8 := hD.2.2.1
    rw [Dealer_dealFrom_s]
    unfold Dealer_dealFrom_b0
    rw [hD.1, if_neg (fun q => absurd ((nI_ltI (by omega) (by omega)).mp q) (by omega))]
    exact ⟨1, f, rfl, fun _ _ => rfl, Or.inl ⟨rfl, w, fun _ _ => rfl, fun j h1 h2 => by omega⟩⟩
  | succ r ih =>
    intro fu d f w hd hf hD hm
    obtain ⟨fu', rfl⟩ : ∃ f', fu = f' + 1 := ⟨fu - 1, by omega⟩
    have hD0 := hD
    obtain ⟨d0, d1, k8, hm12, hL, hw⟩ := hD
    rw [Dealer_dealFrom_s]
    unfold Dealer_dealFrom_b0
    rw [d0, if_pos ((nI_ltI (by omega) (by omega)).mpr (by omega))]
    -- the tones, one after the other
    have loop : ∀ (q t g : Nat) (f1 : Nat → Int32), t + q = 9 → q < g → (∀ j, j < d → f1 j = f j) → ∃ x f', Dealer_dealFrom_h13 N (Dealer_dealFrom N fu') D 8 (nI d) (nI (mx w d)) (nI most) g f1 (nI t) = some (x, f') ∧ (∀ j, j < d → f' j = f j) ∧ ((x = 1 ∧ ∃ s, t ≤ s ∧ s ≤ mx w d ∧ s < most ∧ kn L w m d s ∧ Ext L (wu w d s) m k most (d + 1)) ∨ (x = 0 ∧ ¬ ∃ s, t ≤ s ∧ s ≤ mx w d ∧ s < most ∧ kn L w m d s ∧ Ext L (wu w d s) m k most (d + 1))) := by
      intro q
      induction q with
      | zero =>
        intro t g f1 ht hg hf1
        obtain ⟨g', rfl⟩ : ∃ g', g = g' + 1 := ⟨g - 1, by omega⟩
        rw [Dealer_dealFrom_h13_s]
        unfold Dealer_dealFrom_b13
        by_cases c : mx w d < t
        · rw [if_pos ((nI_ltI (by omega) (by omega)).mpr c)]
          exact ⟨0, f1, rfl, hf1, Or.inr ⟨rfl, fun ⟨s, h1, h2, _⟩ => by omega⟩⟩
        · rw [if_neg (fun z => c ((nI_ltI (by omega) (by omega)).mp z)), if_pos ((nI_leI (by omega) (by omega)).mpr (by omega))]
          exact ⟨0, f1, rfl, hf1, Or.inr ⟨rfl, fun ⟨s, h1, h2, h3, _⟩ => by omega⟩⟩
      | succ q ihq =>
        intro t g f1 ht hg hf1
        obtain ⟨g', rfl⟩ : ∃ g', g = g' + 1 := ⟨g - 1, by omega⟩
        rw [Dealer_dealFrom_h13_s]
        unfold Dealer_dealFrom_b13
        by_cases c : mx w d < t
        · rw [if_pos ((nI_ltI (by omega) (by omega)).mpr c)]
          exact ⟨0, f1, rfl, hf1, Or.inr ⟨rfl, fun ⟨s, h1, h2, _⟩ => by omega⟩⟩
        rw [if_neg (fun z => c ((nI_ltI (by omega) (by omega)).mp z))]
        by_cases c2 : most ≤ t
        · rw [if_pos ((nI_leI (by omega) (by omega)).mpr c2)]
          exact ⟨0, f1, rfl, hf1, Or.inr ⟨rfl, fun ⟨s, h1, h2, h3, _⟩ => by omega⟩⟩
        rw [if_neg (fun z => c2 ((nI_leI (by omega) (by omega)).mp z))]
        have hD1 : dR D f1 L w k m d := ⟨d0, d1, k8, hm12, hL, fun j hj => by rw [hf1 j hj]; exact hw j hj⟩
        have skip : ∀ f2 : Nat → Int32, (∀ j, j < d → f2 j = f j) → ¬ (kn L w m d t ∧ Ext L (wu w d t) m k most (d + 1)) → ∃ x f', Dealer_dealFrom_b66 N (Dealer_dealFrom N fu') (Dealer_dealFrom_h13 N (Dealer_dealFrom N fu') D 8 (nI d) (nI (mx w d)) (nI most) g') D 8 f2 (nI d) (nI (mx w d)) (nI most) (nI t) = some (x, f') ∧ (∀ j, j < d → f' j = f j) ∧ ((x = 1 ∧ ∃ s, t ≤ s ∧ s ≤ mx w d ∧ s < most ∧ kn L w m d s ∧ Ext L (wu w d s) m k most (d + 1)) ∨ (x = 0 ∧ ¬ ∃ s, t ≤ s ∧ s ≤ mx w d ∧ s < most ∧ kn L w m d s ∧ Ext L (wu w d s) m k most (d + 1))) := by
          intro f2 hf2 hno
          unfold Dealer_dealFrom_b66
          rw [nI_1]
          obtain ⟨x, f', e1, e2, e3⟩ := ihq (t + 1) g' f2 (by omega) (by omega) hf2
          refine ⟨x, f', e1, e2, ?_⟩
          rcases e3 with ⟨x1, s, s1, s2⟩ | ⟨x0, hn⟩
          · exact Or.inl ⟨x1, s, by omega, s2⟩
          · refine Or.inr ⟨x0, fun ⟨s, s1, s2, s3, s4, s5⟩ => ?_⟩
            rcases Nat.eq_or_lt_of_le s1 with z | z
            · subst z; exact hno ⟨s4, s5⟩
            · exact hn ⟨s, z, s2, s3, s4, s5⟩
        rcases isKnown_eq (N := N) hN hD1 (show d < k by omega) (show t < 12 by omega) with ⟨hk, ek⟩ | ⟨hk, ek⟩ <;> rw [ek] <;> simp only [zbs]
        · rw [if_neg n10, zck_in (vp_in_nI (by omega) (by decide)), nI_clamp (n := d) (by omega), nI_1, nI_1]
          have emx : Math_max N (nI (mx w d)) (nI (t + 1)) = some (nI (mx (wu w d t) (d + 1))) := by
            have e : mx (wu w d t) (d + 1) = if mx w d ≤ t then t + 1 else mx w d := by
              show (if mx (wu w d t) d ≤ wu w d t d then wu w d t d + 1 else mx (wu w d t) d) = _
              rw [wu_at, if_pos rfl, mx_congr d (fun j hj => by rw [wu_at, if_neg (by omega)] : ∀ j, j < d → wu w d t j = w j)]
            unfold Math_max Math_max_b0
            rw [e]
            by_cases z : mx w d ≤ t
            · rw [if_pos z, if_pos ((nI_ltI (by omega) (by omega)).mpr (by omega))]
            · rw [if_neg z, if_neg (fun y => absurd ((nI_ltI (by omega) (by omega)).mp y) (by omega))]
          rw [emx]
          simp only [zbs]
          have hD2 : dR D (upd f1 d (nI t)) L (wu w d t) k m (d + 1) := by
            refine ⟨d0, d1, k8, hm12, hL, fun j hj => ?_⟩
            rw [upd_at, wu_at]
            by_cases e : j = d
            · rw [if_pos e, if_pos e]; exact ⟨rfl, by omega⟩
            · rw [if_neg e, if_neg e]; exact hD1.2.2.2.2.2 j (by omega)
          have hm2 : mx (wu w d t) (d + 1) ≤ d + 1 := by
            show (if mx (wu w d t) d ≤ wu w d t d then wu w d t d + 1 else mx (wu w d t) d) ≤ d + 1
            rw [wu_at, if_pos rfl, mx_congr d (fun j hj => by rw [wu_at, if_neg (by omega)] : ∀ j, j < d → wu w d t j = w j)]
            split <;> omega
          obtain ⟨x, f', e1, e2, e3⟩ := ih fu' (d + 1) (upd f1 d (nI t)) (wu w d t) (by omega) (by omega) hD2 hm2
          have hf' : ∀ j, j < d → f' j = f j := fun j hj => by rw [e2 j (by omega), upd_at, if_neg (by omega)]; exact hf1 j hj
          rw [e1]
          simp only [zbs]
          rcases e3 with ⟨x1, hx⟩ | ⟨x0, hx⟩
          · rw [if_neg (by rw [x1]; decide)]
            exact ⟨1, f', rfl, hf', Or.inl ⟨rfl, t, Nat.le_refl _, by omega, by omega, hk, hx⟩⟩
          · rw [if_pos x0]
            exact skip f' hf' (fun z => hx z.2)
        · rw [if_pos trivial]
          exact skip f1 hf1 (fun z => hk z.1)
    obtain ⟨x, f', e1, e2, e3⟩ := loop 9 0 N f (by omega) (by omega) (fun _ _ => rfl)
    refine ⟨x, f', e1, e2, ?_⟩
    rw [Ext_step (show d < k by omega)]
    exact e3
/-- a whole row that is known -/
def vd (L w : Nat → Nat) (m k : Nat) : Prop := ∀ j, j < k → w j ≤ mx w j ∧ kn L w m j (w j)
/-- the least number of tones -/
def lst (L : Nat → Nat) (m k s : Nat) : Prop := (∃ w, vd L w m k ∧ mx w k = s) ∧ ∀ w, vd L w m k → s ≤ mx w k
theorem lst.uniq {L : Nat → Nat} {m k s t : Nat} (h : lst L m k s) (g : lst L m k t) : s = t := by
  obtain ⟨⟨w, w1, w2⟩, h2⟩ := h
  obtain ⟨⟨v, v1, v2⟩, g2⟩ := g
  have a := h2 v v1
  have b := g2 w w1
  omega
theorem Ext0 {L w : Nat → Nat} {m k most : Nat} : Ext L w m k most 0 ↔ ∃ v, vd L v m k ∧ mx v k ≤ most := by
  constructor
  · rintro ⟨v, _, h⟩
    exact ⟨v, fun j hj => ⟨(h j (Nat.zero_le _) hj).1, (h j (Nat.zero_le _) hj).2.2⟩, mx_le k most (fun j hj => (h j (Nat.zero_le _) hj).2.1)⟩
  · rintro ⟨v, h, hm⟩
    exact ⟨v, fun j hj => absurd hj (by omega), fun j _ hj => ⟨(h j hj).1, by have := lt_mx (w := v) k j hj; omega, (h j hj).2⟩⟩
theorem mx_id : ∀ j, mx (fun i => i) j = j := by
  intro j
  induction j with
  | zero => rfl
  | succ j ih => show (if mx (fun i => i) j ≤ j then j + 1 else mx (fun i => i) j) = j + 1; rw [ih, if_pos (Nat.le_refl _)]
theorem vd_id {L : Nat → Nat} {m k : Nat} : vd L (fun i => i) m k := by
  intro j hj
  refine ⟨by rw [mx_id]; exact Nat.le_refl _, fun a ha q => ?_, Or.inr (fun a b hb ha wa wb => ?_)⟩
  · have : a = j := q.1
    omega
  · have e1 : a = j := wa
    omega
