/-! dealt: the reference's rows one after the other; both sides -/
def rgs (w : Nat → Nat) (k : Nat) : Prop := ∀ j, j < k → w j ≤ mx w j
theorem mx_id_le {w : Nat → Nat} {k : Nat} (h : rgs w k) : ∀ j, j ≤ k → mx w j ≤ j := by
  intro j
  induction j with
  | zero => intro _; exact Nat.le_refl _
  | succ j ih =>
    intro hj
    have h1 := ih (by omega)
    have h2 := h j (by omega)
    show (if mx w j ≤ w j then w j + 1 else mx w j) ≤ j + 1
    split <;> omega
theorem rgs_le {w : Nat → Nat} {k : Nat} (h : rgs w k) : ∀ j, j < k → w j ≤ j := fun j hj => by
  have h1 := mx_id_le h j (by omega)
  have h2 := h j hj
  omega
theorem great_eq {N : Nat} {s : zSt} {t : Nat → Nat} {p : Nat} (hp : p ≤ 9) (ht : ∀ i, i < p → zA s 56 i = nI (t i) ∧ t i ≤ i) : ∀ (r i f : Nat) (v : Int32), i + r = p → r < f → v.toInt = (mx t i : Int) - 1 → ∃ z, Mo_greatest_h4 N s (nI p) f v (nI i) = some z ∧ z.toInt = (mx t p : Int) - 1 := by
  intro r
  induction r with
  | zero =>
    intro i f v hi hf hv
    obtain ⟨f', rfl⟩ : ∃ f', f = f' + 1 := ⟨f - 1, by omega⟩
    have e : i = p := by omega
    subst e
    rw [Mo_greatest_h4_s]
    unfold Mo_greatest_b4
    rw [if_pos ((nI_leI (by omega) (by omega)).mpr (Nat.le_refl _))]
    exact ⟨v, rfl, hv⟩
  | succ r ih =>
    intro i f v hi hf hv
    obtain ⟨f', rfl⟩ : ∃ f', f = f' + 1 := ⟨f - 1, by omega⟩
    obtain ⟨e1, l1⟩ := ht i (by omega)
    have e2 := nI_toInt (n := t i) (by omega)
    have hs : mx t (i + 1) = if mx t i ≤ t i then t i + 1 else mx t i := rfl
    rw [Mo_greatest_h4_s]
    unfold Mo_greatest_b4 Mo_greatest_b29
    rw [if_neg (fun q => absurd ((nI_leI (by omega) (by omega)).mp q) (by omega)), zck_in (vp_in_nI (by omega) (by decide)), nI_clamp (by omega), e1, zck_in (vp_in_nI (by omega) (by decide)), nI_1]
    by_cases c : nI (t i) ≤ v
    · have c' := tle c
      rw [if_neg (by omega)] at hs
      rw [if_pos c]
      exact ih (i + 1) f' v (by omega) (by omega) (by omega)
    · have c' := tnle c
      rw [if_pos (by omega)] at hs
      rw [if_neg c]
      exact ih (i + 1) f' (nI (t i)) (by omega) (by omega) (by omega)
theorem great_at {N : Nat} (hN : 50000000 ≤ N) {s : zSt} {t : Nat → Nat} {p : Nat} (hp : p ≤ 9) (ht : ∀ i, i < p → zA s 56 i = nI (t i) ∧ t i ≤ i) : ∃ z, Mo_greatest N s (nI p) = some z ∧ z.toInt = (mx t p : Int) - 1 := by
  obtain ⟨z, e, h⟩ := great_eq (N := N) hp ht p 0 N (-1) (by omega) (by omega) (show ((-1) : Int32).toInt = ((0 : Nat) : Int) - 1 by decide)
  exact ⟨z, e, h⟩
theorem nT_eq {N k : Nat} (hN : 50000000 ≤ N) (hk : k ≤ 8) {t : Nat → Nat} (hr : rgs t k) : ∀ (p f : Nat) (s : zSt), p ≤ k → p < f → (∀ i, i < p → zA s 56 i = nI (t i)) → ∃ z, Mo_nextTones_h7 N f s (nI p - 1) = some z ∧ ((z.1 = 0 ∧ ∀ i, 0 < i → i < p → t i = mx t i) ∨ (z.1 = 1 ∧ ∃ j, 0 < j ∧ j < p ∧ t j < mx t j ∧ (∀ i, j < i → i < p → t i = mx t i) ∧ ∀ i, zA z.2 56 i = if i = j then nI (t j + 1) else if j < i ∧ i < p then 0 else zA s 56 i)) := by
  intro p
  induction p with
  | zero =>
    intro f s _ hf _
    obtain ⟨f', rfl⟩ : ∃ f', f = f' + 1 := ⟨f - 1, by omega⟩
    rw [Mo_nextTones_h7_s]
    unfold Mo_nextTones_b7
    rw [if_pos (by decide)]
    exact ⟨_, rfl, Or.inl ⟨rfl, fun i h1 h2 => by omega⟩⟩
  | succ p ih =>
    intro f s hp hf ht
    obtain ⟨f', rfl⟩ : ∃ f', f = f' + 1 := ⟨f - 1, by omega⟩
    have hle := rgs_le hr
    have e := ht p (by omega)
    have l := hr p (by omega)
    have lp := hle p (by omega)
    rw [Mo_nextTones_h7_s, nI_p1 p (by omega)]
    unfold Mo_nextTones_b7
    by_cases p0 : p = 0
    · subst p0
      rw [if_pos (by decide)]
      exact ⟨_, rfl, Or.inl ⟨rfl, fun i h1 h2 => by omega⟩⟩
    have vp : vp_in (nI p) 9 := vp_in_nI (by omega) (by decide)
    obtain ⟨y, ey, hy⟩ := great_at (N := N) hN (s := s) (t := t) (p := p) (by omega) (fun i hi => ⟨ht i (by omega), hle i (by omega)⟩)
    have et := nI_toInt (n := t p) (by omega)
    rw [if_neg (show ¬ nI p ≤ 0 from fun q => absurd ((nI_leI (a := p) (b := 0) (by omega) (by decide)).mp q) (by omega)), zck_in vp, ey]
    simp only [zbs]
    rw [nI_clamp (by omega), e]
    by_cases c : y < nI (t p)
    · have c' := tlt c
      rw [if_pos c, zck_in vp, nI_m1]
      obtain ⟨z, ez, hz⟩ := ih f' (zsA s 56 (upd (zA s 56) p 0)) (by omega) (by omega) (fun i hi => by rw [zA_sA, if_pos rfl, upd_at, if_neg (by omega)]; exact ht i (by omega))
      refine ⟨z, ez, ?_⟩
      have hp' : t p = mx t p := by omega
      rcases hz with ⟨z0, h⟩ | ⟨z1, j, j0, j1, j2, j3, j4⟩
      · refine Or.inl ⟨z0, fun i h1 h2 => ?_⟩
        by_cases q : i = p
        · rw [q]; exact hp'
        · exact h i h1 (by omega)
      · refine Or.inr ⟨z1, j, j0, by omega, j2, fun i h1 h2 => ?_, fun i => ?_⟩
        · by_cases q : i = p
          · rw [q]; exact hp'
          · exact j3 i h1 (by omega)
        · rw [j4 i, zA_sA, if_pos rfl, upd_at]
          by_cases a : i = j
          · rw [if_pos a, if_pos a]
          · rw [if_neg a, if_neg a]
            by_cases b : j < i ∧ i < p
            · rw [if_pos b, if_pos (by omega)]
            · rw [if_neg b]
              by_cases d : i = p
              · rw [if_pos d, if_pos (by omega)]
              · rw [if_neg d, if_neg (by omega)]
    · have c' := tnlt c
      rw [if_neg c, zck_in vp, zck_in vp, nI_1]
      refine ⟨_, rfl, Or.inr ⟨rfl, p, by omega, by omega, by omega, fun i h1 h2 => by omega, fun i => ?_⟩⟩
      rw [zA_sA, if_pos rfl, upd_at]
      by_cases a : i = p
      · rw [if_pos a, if_pos a]
      · rw [if_neg a, if_neg a, if_neg (by omega)]
/-- one row comes after another -/
def lx (t v : Nat → Nat) (k : Nat) : Prop := ∃ i, i < k ∧ (∀ a, a < i → v a = t a) ∧ t i < v i
def same (v t : Nat → Nat) (k : Nat) : Prop := ∀ i, i < k → v i = t i
theorem first_diff (v u : Nat → Nat) : ∀ n, same v u n ∨ ∃ i, i < n ∧ (∀ a, a < i → v a = u a) ∧ ¬ v i = u i := by
  intro n
  induction n with
  | zero => exact Or.inl (fun i hi => absurd hi (by omega))
  | succ n ih =>
    rcases ih with h | ⟨i, h1, h2⟩
    · by_cases e : v n = u n
      · refine Or.inl (fun i hi => ?_)
        by_cases q : i = n
        · rw [q]; exact e
        · exact h i (by omega)
      · exact Or.inr ⟨n, by omega, fun a ha => h a ha, e⟩
    · exact Or.inr ⟨i, by omega, h2⟩
theorem lx_top {t v : Nat → Nat} {k : Nat} (hv : rgs v k) {j : Nat} (h : ∀ i, j < i → i < k → t i = mx t i) {i : Nat} (hi : i < k) (ha : ∀ a, a < i → v a = t a) (hl : t i < v i) (hj : j < i) : False := by
  have h1 := hv i hi
  rw [mx_congr i ha, ← h i hj hi] at h1
  omega
theorem lx_end {t v : Nat → Nat} {k : Nat} (hv : rgs v k) (h : ∀ i, 0 < i → i < k → t i = mx t i) : ¬ lx t v k := by
  rintro ⟨i, hi, ha, hl⟩
  rcases Nat.eq_zero_or_pos i with e | e
  · subst e
    have h1 : v 0 ≤ mx v 0 := hv 0 hi
    have h2 : mx v 0 = 0 := rfl
    omega
  · exact lx_top hv h hi ha hl e
def nxt (t : Nat → Nat) (j : Nat) : Nat → Nat := fun i => if i = j then t j + 1 else if j < i then 0 else t i
theorem nxt_at (t : Nat → Nat) (j i : Nat) : nxt t j i = if i = j then t j + 1 else if j < i then 0 else t i := rfl
theorem nxt_lt {t : Nat → Nat} {j i : Nat} (h : i < j) : nxt t j i = t i := by rw [nxt_at, if_neg (by omega), if_neg (by omega)]
theorem nxt_rgs {t : Nat → Nat} {k j : Nat} (h : rgs t k) (hj : t j < mx t j) : rgs (nxt t j) k := by
  intro i hi
  have e : ∀ i, i ≤ j → mx (nxt t j) i = mx t i := fun i hi => mx_congr i (fun a ha => nxt_lt (by omega))
  rcases Nat.lt_trichotomy i j with l | l | l
  · rw [nxt_lt l, e i (by omega)]; exact h i hi
  · subst l
    rw [e i (Nat.le_refl _), nxt_at, if_pos rfl]; exact hj
  · rw [nxt_at, if_neg (by omega), if_pos l]; exact Nat.zero_le _
theorem lx_next {t v : Nat → Nat} {k j : Nat} (hv : rgs v k) (hj : j < k) (h : ∀ i, j < i → i < k → t i = mx t i) (q : lx t v k) : same v (nxt t j) k ∨ lx (nxt t j) v k := by
  obtain ⟨i, hi, ha, hl⟩ := q
  rcases Nat.lt_trichotomy i j with l | l | l
  · refine Or.inr ⟨i, hi, fun a h1 => ?_, ?_⟩
    · rw [nxt_lt (by omega)]; exact ha a h1
    · rw [nxt_lt l]; exact hl
  · subst l
    by_cases c : t i + 1 < v i
    · refine Or.inr ⟨i, hi, fun a h1 => ?_, ?_⟩
      · rw [nxt_lt h1]; exact ha a h1
      · rw [nxt_at, if_pos rfl]; exact c
    · have e : v i = t i + 1 := by omega
      rcases first_diff v (nxt t i) k with s | ⟨x, x1, x2, x3⟩
      · exact Or.inl s
      · refine Or.inr ⟨x, x1, x2, ?_⟩
        rcases Nat.lt_trichotomy x i with m | m | m
        · exact absurd (by rw [nxt_lt m]; exact ha x m) x3
        · subst m
          exact absurd (by rw [nxt_at, if_pos rfl]; exact e) x3
        · have z : nxt t i x = 0 := by rw [nxt_at, if_neg (by omega), if_pos m]
          rw [z] at x3 ⊢
          omega
  · exact (lx_top hv h hi ha hl l).elim
theorem vd_congr {L v t : Nat → Nat} {m k : Nat} (h : same v t k) (hv : vd L v m k) : vd L t m k := by
  intro j hj
  obtain ⟨h1, h2⟩ := hv j hj
  have hs : ∀ a, a < j → v a = t a := fun a ha => h a (by omega)
  rw [← h j hj, ← mx_congr j hs]
  exact ⟨h1, (kn_congr hs).mp h2⟩
theorem vd_ref {L w : Nat → Nat} {m k : Nat} (hk : k ≤ 8) (hm : m = 1 ∨ m = 2) (hL : ∀ j, j < k → 1 ≤ L j) (hr : rgs w k) : refOK L w m k ↔ vd L w m k := by
  have hle := rgs_le hr
  constructor
  · intro h j hj
    exact ⟨hr j hj, kn_of_ref hk hm h j hj⟩
  · intro h
    exact ref_of_kn hk hm hL (fun j hj => by have := hle j hj; omega) (fun d hd => (h d hd).2)
/-- the best so far; the rows with P are still to come -/
def BJ (P : (Nat → Nat) → Prop) (L : Nat → Nat) (m k : Nat) (v2 : Int32) : Prop := (v2 = -1 ∧ ∀ v, vd L v m k → P v) ∨ ∃ β, v2 = nI β ∧ β ≤ 8 ∧ (∃ u, vd L u m k ∧ mx u k = β) ∧ ∀ v, vd L v m k → β ≤ mx v k ∨ P v
theorem BJ.mono {P Q : (Nat → Nat) → Prop} {L : Nat → Nat} {m k : Nat} {v2 : Int32} (h : BJ P L m k v2) (hq : ∀ v, vd L v m k → P v → Q v) : BJ Q L m k v2 := by
  rcases h with ⟨h1, h2⟩ | ⟨β, h1, h2, h3, h4⟩
  · exact Or.inl ⟨h1, fun v hv => hq v hv (h2 v hv)⟩
  · refine Or.inr ⟨β, h1, h2, h3, fun v hv => ?_⟩
    rcases h4 v hv with q | q
    · exact Or.inl q
    · exact Or.inr (hq v hv q)
theorem BJ.fin {L : Nat → Nat} {m k : Nat} {v2 : Int32} (h : BJ (fun _ => False) L m k v2) : ∃ β, v2 = nI β ∧ lst L m k β := by
  rcases h with ⟨_, h2⟩ | ⟨β, h1, _, h3, h4⟩
  · exact (h2 _ vd_id).elim
  · exact ⟨β, h1, h3, fun w hw => (h4 w hw).resolve_right id⟩
theorem dl_eq {N k m : Nat} (hN : 50000000 ≤ N) (hk : k ≤ 8) (hm : m = 1 ∨ m = 2) {L g : Nat → Nat} (hL : ∀ j, j < k → 1 ≤ L j) : ∀ (n : Nat) (s : zSt) (v2 : Int32) (t : Nat → Nat), I_Mo s → dM s L t g k m → rgs t k → BJ (fun v => same v t k ∨ lx t v k) L m k v2 → 9 ^ k + 1 ≤ n + vl 9 t k → ∃ z β, Mo_dealt_h41 N n s v2 1 = some z ∧ z.1 = nI β ∧ lst L m k β := by
  have e1 : (1 : Int32).toInt = 1 := by decide
  intro n
  induction n with
  | zero =>
    intro s v2 t hs hD hr hB hn
    have hle := rgs_le hr
    have := vl_lt (B := 9) (f := t) k (fun i hi => by have := hle i hi; omega)
    exact absurd hn (by omega)
  | succ n ih =>
    intro s v2 t hs hD hr hB hn
    have hle := rgs_le hr
    have hv := vl_lt (B := 9) (f := t) k (fun i hi => by have := hle i hi; omega)
    have hmx := mx_id_le hr k (Nat.le_refl _)
    have h3 := nI_toInt (n := k) (by omega)
    have b81 : ∀ (s : zSt) (v2 : Int32), I_Mo s → dM s L t g k m → BJ (fun v => lx t v k) L m k v2 → ∃ z β, Mo_dealt_b81 N (Mo_dealt_h41 N n) s v2 = some z ∧ z.1 = nI β ∧ lst L m k β := by
      intro s v2 hs hD hB
      obtain ⟨d30, d2, d3, d61, dg, dw, d60⟩ := hD
      have hDg : Dg s k t (fun i => i) := fun i hi => ⟨(dw i hi).1, hle i hi⟩
      obtain ⟨z1, ez, hz⟩ := nT_eq (N := N) hN hk hr k N s (Nat.le_refl _) (by omega) (fun i hi => (dw i hi).1)
      have ez : Mo_nextTones N s = some z1 := by
        unfold Mo_nextTones Mo_nextTones_b0
        rw [d30]
        exact ez
      obtain ⟨⟨z2, z3⟩, _⟩ := zok_at ez (nTones_next hN hk hs d30 hDg)
      have hI : I_Mo (zmg [17, 21, 57, 59, 60] z1.2 s) := IS.mg _ z2 hs
      unfold Mo_dealt_b81
      rw [ez]
      simp only [zbs]
      rcases hz with ⟨z0, h⟩ | ⟨z1', j, j0, j1, j2, j3, j4⟩
      · rw [z0]
        obtain ⟨n', rfl⟩ : ∃ n', n = n' + 1 := ⟨n - 1, by omega⟩
        rw [Mo_dealt_h41_s]
        unfold Mo_dealt_b41
        rw [if_pos rfl]
        obtain ⟨β, e, hl⟩ := (hB.mono (Q := fun _ => False) (fun v hv q => lx_end (fun j hj => (hv j hj).1) h q)).fin
        exact ⟨_, β, rfl, e, hl⟩
      · rw [z1']
        have hr' := nxt_rgs hr j2
        have hle' := rgs_le hr'
        refine ih _ v2 (nxt t j) hI ?_ hr' (hB.mono (fun v hv q => lx_next (fun j hj => (hv j hj).1) j1 j3 q)) ?_
        · refine ⟨?_, d2, d3, ?_, ?_, fun i hi => ?_, ?_⟩
          · show zI z1.2 30 = _; rw [z3.1 30 rfl]; exact d30
          · show zI z1.2 61 = _; rw [z3.1 61 rfl]; exact d61
          · rw [zA_mg, if_pos (by decide), zA_mg, if_pos (by decide)]; exact dg
          · rw [zA_mg, if_neg (by decide), j4 i]
            refine ⟨?_, by have := hle' i hi; omega⟩
            rw [nxt_at]
            by_cases a : i = j
            · rw [if_pos a, if_pos a]
            · rw [if_neg a, if_neg a]
              by_cases b : j < i
              · rw [if_pos (And.intro b hi), if_pos b]; rfl
              · rw [if_neg (by omega), if_neg b]; exact (dw i hi).1
          · rw [zA_mg, if_pos (by decide)]; exact d60
        · have hu := vl_up (B := 9) (f := t) (g := nxt t j) (j := j) k j1 (fun i hi => nxt_lt hi) (by rw [nxt_at, if_pos rfl]) (fun i hi => by have := hle i hi; omega)
          omega
    have b67 : (∀ β, v2 = nI β → β ≤ 8 → mx t k ≤ β) → ∃ z β, Mo_dealt_b67 N (Mo_dealt_h41 N n) s v2 (nI (mx t k)) = some z ∧ z.1 = nI β ∧ lst L m k β := by
      intro hlt
      obtain ⟨z, ez, hz⟩ := known_eq (N := N) hN hD
      have h8 : (0 : Int) ≤ (zI s 30).toInt ∧ (zI s 30).toInt ≤ 8 := by rw [hD.1]; omega
      obtain ⟨_, z2, z3⟩ := zok_at ez (t_Mo_areKnown N hN s hs h8)
      have hI : I_Mo (zmg [57] z.2 s) := IS.mg _ z2 hs
      have hD1 : dM (zmg [57] z.2 s) L t g k m := hD.fr (Fr.mg z3 Fr.rf) rfl rfl
      unfold Mo_dealt_b67
      rw [ez]
      simp only [zbs]
      rcases hz with ⟨hk1, q⟩ | ⟨hk1, q⟩
      · rw [if_neg (by rw [q]; decide)]
        have hvt := (vd_ref hk hm hL hr).mp hk1
        obtain ⟨z4, e4, h4, f4⟩ := t_Mo_putDown N hN _ hI (by rw [hD1.1]; omega)
        rw [e4]
        simp only [zbs]
        refine b81 _ _ (IS.mg _ h4 hI) (hD1.fr (Fr.mg f4 Fr.rf) rfl rfl) (Or.inr ⟨mx t k, rfl, by omega, ⟨t, hvt, rfl⟩, fun v hv => ?_⟩)
        have key : same v t k ∨ lx t v k → mx t k ≤ mx v k ∨ lx t v k := fun c => by
          rcases c with c | c
          · exact Or.inl (by rw [mx_congr k c]; exact Nat.le_refl _)
          · exact Or.inr c
        rcases hB with ⟨_, h2⟩ | ⟨β, b1, b2, b3, b4⟩
        · exact key (h2 v hv)
        · rcases b4 v hv with c | c
          · exact Or.inl (Nat.le_trans (hlt β b1 b2) c)
          · exact key c
      · rw [if_pos q]
        refine b81 _ _ hI hD1 (hB.mono (fun v hv c => ?_))
        rcases c with c | c
        · exact absurd ((vd_ref hk hm hL hr).mpr (vd_congr c hv)) hk1
        · exact c
    obtain ⟨y, ey, hy⟩ := great_at (N := N) hN (s := s) (t := t) (p := k) (by omega) (fun i hi => ⟨(hD.2.2.2.2.2.1 i hi).1, hle i hi⟩)
    have ey1 : y + 1 = nI (mx t k) := by
      have := tadd y 1 (by omega) (by omega)
      have := nI_toInt (n := mx t k) (by omega)
      exact Int32.toInt_inj.mp (by omega)
    rw [Mo_dealt_h41_s]
    unfold Mo_dealt_b41
    rw [if_neg n10, hD.1, ey]
    simp only [zbs]
    rw [ey1]
    rcases hB with ⟨h1, h2⟩ | ⟨β, b1, b2, b3, b4⟩
    · rw [if_pos (by rw [h1]; decide)]
      refine b67 (fun β e hb => ?_)
      rw [h1] at e
      have := teq e
      rw [nI_toInt (by omega)] at this
      have em : ((-1) : Int32).toInt = -1 := by decide
      omega
    · have eb := nI_toInt (n := β) (by omega)
      rw [if_neg (by rw [b1]; intro c; have c := tlt c; have e0 : (0 : Int32).toInt = 0 := by decide
                     omega)]
      by_cases c : v2 ≤ nI (mx t k)
      · rw [if_pos c]
        rw [b1] at c
        have c := (nI_leI (by omega) (by omega)).mp c
        refine b81 s v2 hs hD (Or.inr ⟨β, b1, b2, b3, fun v hv => ?_⟩)
        rcases b4 v hv with q | q | q
        · exact Or.inl q
        · exact Or.inl (by rw [mx_congr k q]; exact c)
        · exact Or.inr q
      · rw [if_neg c]
        refine b67 (fun γ e hg => ?_)
        rw [e] at c
        rcases Nat.lt_or_ge γ (mx t k) with l | l
        · exact absurd ((nI_leI (by omega) (by omega)).mpr (by omega)) c
        · exact l
/-- the class gathers the beasts' loudness -/
theorem gather {N b m : Nat} {V : zSt} {p : Nat → Bool} {f2 : Nat → Int32} (hb : b ≤ 11) (hk : bcnt (isB V) b ≤ 8) (v3 : zI V 3 = nI b) (h8 : zI V 8 = nI (bset (isB V) b)) : ∀ (r i f : Nat) (D : zSt), i + r = b → r < f → zI D 0 = nI (bcnt (isB V) i) → zI D 1 = nI m → (∀ x, x < i → isB V x = true → zA D 2 (bcnt (isB V) x) = zA V 6 x) → ∃ D', zI D' 0 = nI (bcnt (isB V) b) ∧ zI D' 1 = nI m ∧ (∀ x, x < b → isB V x = true → zA D' 2 (bcnt (isB V) x) = zA V 6 x) ∧ Dealer_deal_h13 N V 8 f D f2 (nI i) = Dealer_deal_b72 N D' V 8 f2 := by
  intro r
  induction r with
  | zero =>
    intro i f D hi hf d0 d1 d2
    obtain ⟨f', rfl⟩ : ∃ f', f = f' + 1 := ⟨f - 1, by omega⟩
    have e : i = b := by omega
    subst e
    rw [Dealer_deal_h13_s]
    unfold Dealer_deal_b13
    rw [v3, if_pos ((nI_leI (by omega) (by omega)).mpr (Nat.le_refl _))]
    exact ⟨D, d0, d1, d2, rfl⟩
  | succ r ih =>
    intro i f D hi hf d0 d1 d2
    obtain ⟨f', rfl⟩ : ∃ f', f = f' + 1 := ⟨f - 1, by omega⟩
    have hmono := bcnt_mono (p := isB V) (show i ≤ b by omega)
    rw [Dealer_deal_h13_s]
    unfold Dealer_deal_b13
    rw [v3, if_neg (fun q => absurd ((nI_leI (by omega) (by omega)).mp q) (by omega)), d0]
    by_cases c : 8 ≤ bcnt (isB V) i
    · rw [if_pos ((zleR (k := 8) (by omega) (by decide)).mpr c)]
      refine ⟨D, by rw [d0]; congr 1; omega, d1, fun x hx px => ?_, rfl⟩
      rcases Nat.lt_or_ge x i with l | l
      · exact d2 x l px
      · have h1 := bcnt_mono (p := isB V) l
        have h2 := bcnt_step (p := isB V) hx px
        omega
    · rw [if_neg (fun q => c ((zleR (k := 8) (by omega) (by decide)).mp q)), isBeast_eq h8 hb (show i < b by omega)]
      simp only [zbs]
      unfold Dealer_deal_b66
      rw [nI_1]
      have hs : bcnt (isB V) (i + 1) = bcnt (isB V) i + if isB V i then 1 else 0 := rfl
      by_cases q : isB V i = true
      · rw [if_pos q] at hs
        rw [if_pos q, if_neg n10, zck_in (vp_in_nI (by omega) (by decide)), zck_in (vp_in_nI (by omega) (by decide)), nI_clamp (n := i) (by omega), nI_clamp (n := bcnt (isB V) i) (by omega), nI_1]
        refine ih (i + 1) f' _ (by omega) (by omega) (by rw [zI_pI, if_pos rfl, hs]) (by rw [zI_pI, if_neg (by decide)]; exact d1) (fun x hx px => ?_)
        rw [zA_pI, zA_sA, if_pos rfl, upd_at]
        by_cases e : x = i
        · rw [e, if_pos rfl]
        · have := bcnt_step (p := isB V) (show x < i by omega) px
          rw [if_neg (by omega)]
          exact d2 x (by omega) px
      · rw [if_neg q] at hs
        rw [if_neg q, if_pos rfl]
        refine ih (i + 1) f' D (by omega) (by omega) (by rw [hs]; exact d0) d1 (fun x hx px => ?_)
        by_cases e : x = i
        · rw [e] at px; exact absurd px q
        · exact d2 x (by omega) px
theorem most_loop {N k m : Nat} {D V : zSt} {L : Nat → Nat} (hN : 50000000 ≤ N) (hD : ∀ f, dR D f L (fun _ => 0) k m 0) : ∀ (r v f : Nat) (f2 : Nat → Int32), v + r = k → r < f → (∀ w, vd L w m k → v ≤ mx w k) → ∃ z β, Dealer_deal_h75 N V 8 f D f2 (nI v) = some z ∧ z.1 = nI β ∧ lst L m k β := by
  have k8 := (hD (fun _ => 0)).2.2.1
  have d0 := (hD (fun _ => 0)).1
  intro r
  induction r with
  | zero =>
    intro v f f2 hv hf hl
    obtain ⟨f', rfl⟩ : ∃ f', f = f' + 1 := ⟨f - 1, by omega⟩
    have e : v = k := by omega
    subst e
    obtain ⟨x, g, e1, _⟩ := dealFrom_ok (N := N) (L := L) (m := m) hN (show v ≤ 8 by omega) v 11 0 f2 (fun _ => 0) (by omega) (by omega) (hD f2) (Nat.le_refl _)
    have e1 : Dealer_dealFrom N 11 D 8 f2 0 0 (nI v) = some (x, g) := e1
    rw [Dealer_deal_h75_s]
    unfold Dealer_deal_b75
    rw [d0, if_pos ((nI_leI (by omega) (by omega)).mpr (Nat.le_refl _)), e1]
    exact ⟨_, v, rfl, rfl, ⟨_, vd_id, mx_id v⟩, hl⟩
  | succ r ih =>
    intro v f f2 hv hf hl
    obtain ⟨f', rfl⟩ : ∃ f', f = f' + 1 := ⟨f - 1, by omega⟩
    obtain ⟨x, g, e1, _, e3⟩ := dealFrom_ok (N := N) (L := L) (m := m) hN (show v ≤ 8 by omega) k 11 0 f2 (fun _ => 0) (by omega) (by omega) (hD f2) (Nat.le_refl _)
    have e1 : Dealer_dealFrom N 11 D 8 f2 0 0 (nI v) = some (x, g) := e1
    rw [Dealer_deal_h75_s]
    unfold Dealer_deal_b75
    rw [d0, if_neg (fun q => absurd ((nI_leI (by omega) (by omega)).mp q) (by omega)), e1]
    simp only [zbs]
    rcases e3 with ⟨x1, hx⟩ | ⟨x0, hx⟩
    · rw [if_neg (by rw [x1]; decide)]
      obtain ⟨w, w1, w2⟩ := Ext0.mp hx
      refine ⟨_, v, rfl, rfl, ⟨w, w1, ?_⟩, hl⟩
      have := hl w w1
      omega
    · rw [if_pos x0, nI_1]
      refine ih (v + 1) f' g (by omega) (by omega) (fun w hw => ?_)
      rcases Nat.lt_or_ge v (mx w k) with l | l
      · exact l
      · exact absurd (Ext0.mpr ⟨w, hw, l⟩) hx
theorem dealt_ans {N : Nat} {s0 V M D : zSt} {v1 : Int32} (hN : 50000000 ≤ N) (h0 : I_CH s0) (hM : I_Mo M) (hV : I_Valley V) (hDI : I_Dealer D) (hR : LandR M V) : ∃ z y, CH_dealt N s0 V D v1 = some z ∧ Mo_dealt N M v1 = some y ∧ z.1 = y.1 := by
  obtain ⟨h, b, k, e, ⟨_, l2, l3, _, l5⟩, ⟨_, v3, v9, _, hld⟩, ⟨_, b2, b3, _, _, b6⟩, r1, r2, r3, r4, r5⟩ := hR
  have e0 : (0 : Int32).toInt = 0 := by decide
  have i1 : (1 : Int32).toInt = 1 := by decide
  have i2 : (2 : Int32).toInt = 2 := by decide
  unfold CH_dealt CH_dealt_b0 Mo_dealt Mo_dealt_b0
  have ew : CH_within N v1 1 2 = Mo_isIn N v1 1 2 := rfl
  rw [ew, v9, l3]
  rcases u_Mo_isIn N v1 1 2 with q | ⟨q, w0, w1⟩ <;> rw [q] <;> simp only [zbs]
  · exact ⟨_, _, rfl, rfl, rfl⟩
  rw [if_neg n10, if_neg n10]
  by_cases k8 : k ≤ 8
  · have ck := (zleL (a := k) (k := 8) (by omega) (by decide)).mpr k8
    rw [if_pos ck, if_pos ck]
    obtain ⟨m, em, lm, _⟩ := i_nat (x := v1) (b := 2) (by omega) (by omega)
    have hm : m = 1 ∨ m = 2 := by
      have := nI_toInt (n := m) (by omega)
      rw [em] at w0
      omega
    -- loudness, by the beasts' places
    obtain ⟨g, g1, g2⟩ := beasts_ex r5
    have hl : ∀ x, ∃ n : Nat, zA V 6 x = nI n ∧ n ≤ 99 := fun x => by
      have h6 : (0 : Int) ≤ (zA V 6 x).toInt ∧ (zA V 6 x).toInt ≤ 99 := hV.2 6 x
      obtain ⟨n, h1, h2, _⟩ := i_nat h6.1 h6.2
      exact ⟨n, h1, by omega⟩
    obtain ⟨L, hLd⟩ : ∃ L : Nat → Nat, ∀ j, zA V 6 (g j) = nI (L j) ∧ L j ≤ 99 := ⟨fun j => (hl (g j)).choose, fun j => (hl (g j)).choose_spec⟩
    have hL1 : ∀ j, j < k → 1 ≤ L j := fun j hj => by
      have h6 := hld (g j) (g1 j (by omega)).1
      have := nI_toInt (n := L j) (by have := (hLd j).2; omega)
      rw [(hLd j).1] at h6
      omega
    -- the class
    have hg := gather (N := N) (m := m) (p := isB V) (f2 := zA s0 10) b2 (by omega) v3 r3 b 0 N (zpI (zpI D 1 v1) 0 0) (by omega) (by omega) (by rw [zI_pI, if_pos rfl]; rfl) (by rw [zI_pI, if_neg (by decide), zI_pI, if_pos rfl]; exact em) (fun x hx => absurd hx (by omega))
    obtain ⟨D', g3, g4, g5, g6⟩ := hg
    have hdR : ∀ f, dR D' f L (fun _ => 0) k m 0 := fun f => by
      refine ⟨by rw [g3, r4], g4, k8, hm, fun j hj => ?_, fun j hj => absurd hj (by omega)⟩
      obtain ⟨a1, a2, a3, a4⟩ := g1 j (by omega)
      have := g5 (g j) a1 a2
      rw [a3, (hLd j).1] at this
      exact ⟨this, hL1 j hj, (hLd j).2⟩
    obtain ⟨z, β, ez, hz, hlz⟩ := most_loop (N := N) (V := V) hN hdR k 0 N (zA s0 10) (by omega) (by omega) (fun w _ => Nat.zero_le _)
    have ec : Dealer_deal N D V 8 (zA s0 10) v1 = some z := by
      have : Dealer_deal N D V 8 (zA s0 10) v1 = Dealer_deal_h13 N V 8 N (zpI (zpI D 1 v1) 0 0) (zA s0 10) (nI 0) := rfl
      rw [this, g6]
      exact ez
    rw [ec]
    simp only [zbs]
    -- the reference
    have em1 : ((-1) : Int32).toInt = -1 := by decide
    have hz0 : I_Mo (zpI M 58 0) := IS.pI 58 0 hM (show (0 : Int) ≤ (0 : Int32).toInt ∧ (0 : Int32).toInt ≤ 9 by omega)
    have kt := nI_toInt (n := k) (by omega)
    obtain ⟨z5, e5, ⟨a1, a2⟩, a3⟩ := clear_ok hN hz0 (show (0 : Int) ≤ (zI M 30).toInt ∧ (zI M 30).toInt ≤ 8 by rw [l3]; omega)
    rw [e5]
    simp only [zbs]
    have hI : I_Mo (zmg [17, 21, 57, 59, 60] z5 (zpI M 58 0)) := IS.mg _ a1 hz0
    have hF : Fr [58] [56] (zmg [17, 21, 57, 59, 60] z5 (zpI M 58 0)) M := Fr.mg (Fr.tr a2 (Fr.pI Fr.rf rfl) rfl rfl) (Fr.pI Fr.rf rfl)
    have h56 : ∀ j, j < 9 → zA (zmg [17, 21, 57, 59, 60] z5 (zpI M 58 0)) 56 j = 0 := fun j hj => by rw [zA_mg, if_neg (by decide)]; exact a3 j hj
    have h58 : zI (zmg [17, 21, 57, 59, 60] z5 (zpI M 58 0)) 58 = 0 := by show zI z5 58 = _; rw [a2.1 58 rfl]; rfl
    generalize zmg [17, 21, 57, 59, 60] z5 (zpI M 58 0) = S at hI hF h56 h58 ⊢
    have s30 : zI S 30 = nI k := by rw [hF.1 30 rfl]; exact l3
    have hpw0 : 2 ^ k ≤ 2 ^ 8 := Nat.pow_le_pow_right (by decide) k8
    have hpw : 2 ^ k < N := by omega
    obtain ⟨z7, e7, f7, c61, c60⟩ := lay_eq (N := N) (k := k) (m := m) hN k8 (by omega) s30 (2 ^ k) 0 N (zpI S 61 0) (by omega) hpw (Fr.pI Fr.rf rfl) (by rw [zI_pI, if_pos rfl]; rfl) (fun x hx => absurd hx (by omega))
    have e7 : Mo_layFew N S v1 = some z7 := by
      rw [em]
      exact e7
    obtain ⟨i7, _⟩ := zok_at e7 (t_Mo_layFew N hN S v1 hI (by rw [s30]; omega) (by rw [h58]; omega) (by omega))
    rw [e7]
    simp only [zbs]
    have hF2 : Fr [58, 61] [56, 60] (zmg [17, 21, 56, 57, 59] z7 S) M := Fr.mg (Fr.tr f7 (Fr.tr hF Fr.rf rfl rfl) rfl rfl) (Fr.tr hF Fr.rf rfl rfl)
    have hp : 9 ^ k ≤ 43046721 := pow9_8 k8
    have hdM : dM (zmg [17, 21, 56, 57, 59] z7 S) L (fun _ => 0) g k m := by
      refine ⟨by rw [hF2.1 30 rfl]; exact l3, k8, by omega, c61, fun j hj => ?_, fun j hj => ?_, ?_⟩
      · obtain ⟨a1, a2, a3, a4⟩ := g1 j (by omega)
        rw [hF2.2 21 rfl, hF2.2 17 rfl]
        exact ⟨a4, by omega, by rw [(r1 (g j) a1).2.1]; exact (hLd j).1, (hLd j).2⟩
      · rw [zA_mg, if_pos (by decide), h56 j (by omega)]
        exact ⟨rfl, show 0 < 12 by decide⟩
      · rw [zA_mg, if_neg (by decide)]; exact c60
    have hBJ : BJ (fun v => same v (fun _ => 0) k ∨ lx (fun _ => 0) v k) L m k (-1) := by
      refine Or.inl ⟨rfl, fun v hv => ?_⟩
      rcases first_diff v (fun _ => 0) k with s | ⟨i, x1, x2, x3⟩
      · exact Or.inl s
      · exact Or.inr ⟨i, x1, x2, by show 0 < v i; have x3 : ¬ v i = 0 := x3; omega⟩
    obtain ⟨y, γ, ey, hy, hly⟩ := dl_eq (N := N) hN k8 hm (L := L) (g := g) hL1 N (zmg [17, 21, 56, 57, 59] z7 S) (-1) (fun _ => 0) (IS.mg _ i7 hI) hdM (fun j hj => Nat.zero_le _) hBJ (by omega)
    exact ⟨_, _, rfl, ey, by show z.1 = y.1; rw [hz, hy, hlz.uniq hly]⟩
  · have ck : ¬ nI k ≤ 8 := fun c => k8 ((zleL (a := k) (k := 8) (by omega) (by decide)).mp c)
    rw [if_neg ck, if_neg ck]
    exact ⟨_, _, rfl, rfl, rfl⟩
