/-! what holds between two calls -/
def Rel (s0 s1 s2 s5 s8 s14 s15 s16 : zSt) : Prop := TapeR s0 s1 ∧ zI s0 9 = zI s1 48 ∧ FltR s2 s1 ∧ LandR s1 s8 ∧ NowR s1 s5 ∧ BoxR s0 s1 s14 s15 s16
def INV (s0 s1 s2 s3 s5 s6 s7 s8 s9 s10 s11 s12 s14 s15 s16 : zSt) : Prop :=
  (I_CH s0 ∧ I_Mo s1 ∧ I_Valley s3 ∧ I_Earnest s5 ∧ I_Entries s6 ∧ ET s6 ∧ I_Parting s7 ∧ I_Valley s8 ∧ I_Bounds s9 ∧ I_Sets s10 ∧ I_Creeps s11 ∧ I_Dealer s12 ∧ I_Earnest s14 ∧ I_Earnest s15 ∧ I_Earnest s16) ∧ Rel s0 s1 s2 s5 s8 s14 s15 s16
theorem zok_at {α : Type} {o : Option α} {z : α} {P : α → Prop} (e : o = some z) (h : zok o P) : P z := by
  obtain ⟨w, e2, hw⟩ := h
  rw [e] at e2
  cases e2
  exact hw
theorem off {ks W : List Nat} (h : ks.all (fun k => !W.contains k) = true) {k : Nat} (hk : ks.contains k = true) : W.contains k = false := by
  have := List.all_eq_true.mp h k (List.contains_iff_mem.mp hk)
  simpa using this
theorem TapeR.fr {s0 s0' M M' : zSt} {W0 A0 W A : List Nat} (h : TapeR s0 M) (f0 : Fr W0 A0 s0' s0) (f1 : Fr W A M' M) (e0 : W0.contains 1 = false) (e1 : A0.contains 0 = false) (e2 : W.contains 1 = false) (e3 : A.contains 0 = false) : TapeR s0' M' := by
  obtain ⟨T, n, h1, h2, h3, h4, h5, h6⟩ := h
  exact ⟨T, n, h1, h2, by rw [f0.1 1 e0]; exact h3, by rw [f1.1 1 e2]; exact h4, by rw [f0.2 0 e1]; exact h5, by rw [f1.2 0 e3]; exact h6⟩
theorem FltR.fr {s2 M M' : zSt} {W A : List Nat} (h : FltR s2 M) (f1 : Fr W A M' M) (e : [2, 3].all (fun k => !W.contains k) = true) : FltR s2 M' := ⟨by rw [f1.1 2 (off e rfl)]; exact h.1, by rw [f1.1 3 (off e rfl)]; exact h.2⟩
theorem LandR.fr {V M M' : zSt} {W A : List Nat} (h : LandR M V) (f : Fr W A M' M) (e : [28, 29, 30, 31, 32].all (fun k => !W.contains k) = true) (e2 : [16, 17, 18, 19, 20, 21].all (fun k => !A.contains k) = true) : LandR M' V := by
  obtain ⟨h, b, k, e', ⟨a1, a2, a3, a4, a5⟩, v, c, r1, r2, r3, r4, r5⟩ := h
  refine ⟨h, b, k, e', ⟨by rw [f.1 28 (off e rfl)]; exact a1, by rw [f.1 29 (off e rfl)]; exact a2, by rw [f.1 30 (off e rfl)]; exact a3, by rw [f.1 31 (off e rfl)]; exact a4, by rw [f.1 32 (off e rfl)]; exact a5⟩, v, c, ?_, ?_, r3, r4, ?_⟩
  · rw [f.2 16 (off e2 rfl), f.2 17 (off e2 rfl), f.2 18 (off e2 rfl), f.2 20 (off e2 rfl)]; exact r1
  · rw [f.2 19 (off e2 rfl)]; exact r2
  · unfold BL; rw [f.2 21 (off e2 rfl)]; exact r5
theorem NowR.fr {E M M' : zSt} {W A : List Nat} (h : NowR M E) (f : Fr W A M' M) (e : [34, 35, 36, 37, 38].all (fun k => !W.contains k) = true) (e2 : A.contains 33 = false) : NowR M' E := by
  obtain ⟨⟨n0, n1, n2, n3, n4⟩, n5⟩ := h
  exact ⟨⟨by rw [f.1 34 (off e rfl)]; exact n0, by rw [f.1 35 (off e rfl)]; exact n1, by rw [f.1 36 (off e rfl)]; exact n2, by rw [f.1 37 (off e rfl)]; exact n3, by rw [f.1 38 (off e rfl)]; exact n4⟩, by rw [f.2 33 e2]; exact n5⟩
theorem bx.fr {s0 s0' M M' B : zSt} {j : Nat} (h : bx s0 M B j) (e7 : zI s0' 7 = zI s0 7) (e62 : zA M' 62 = zA M 62) (e63 : zA M' 63 = zA M 63) : bx s0' M' B j := by
  unfold bx nwB at h ⊢
  rw [e7, e62, e63]
  exact h
theorem BoxR.fr {s0 s0' M M' B0 B1 B2 : zSt} {W0 A0 W A : List Nat} (h : BoxR s0 M B0 B1 B2) (f0 : Fr W0 A0 s0' s0) (f1 : Fr W A M' M) (e0 : W0.contains 7 = false) (e1 : A.contains 62 = false) (e2 : A.contains 63 = false) : BoxR s0' M' B0 B1 B2 := by
  obtain ⟨⟨K, hK, h7⟩, b0, b1, b2⟩ := h
  have e7 := f0.1 7 e0
  exact ⟨⟨K, hK, by rw [e7]; exact h7⟩, b0.fr e7 (f1.2 62 e1) (f1.2 63 e2), b1.fr e7 (f1.2 62 e1) (f1.2 63 e2), b2.fr e7 (f1.2 62 e1) (f1.2 63 e2)⟩
theorem TimR.fr {s0 s0' M M' : zSt} {W0 A0 W A : List Nat} (h : zI s0 9 = zI M 48) (f0 : Fr W0 A0 s0' s0) (f1 : Fr W A M' M) (e0 : W0.contains 9 = false) (e1 : W.contains 48 = false) : zI s0' 9 = zI M' 48 := by
  rw [f0.1 9 e0, f1.1 48 e1]; exact h
theorem Rel.fr {s0 s0' s1 s1' s2 s5 s8 s14 s15 s16 : zSt} {W0 A0 W A : List Nat} (r : Rel s0 s1 s2 s5 s8 s14 s15 s16) (f0 : Fr W0 A0 s0' s0) (f1 : Fr W A s1' s1) (e0 : [1, 7, 9].all (fun k => !W0.contains k) = true) (e1 : A0.contains 0 = false) (e2 : [1, 2, 3, 28, 29, 30, 31, 32, 34, 35, 36, 37, 38, 48].all (fun k => !W.contains k) = true) (e3 : [0, 16, 17, 18, 19, 20, 21, 33, 62, 63].all (fun k => !A.contains k) = true) : Rel s0' s1' s2 s5 s8 s14 s15 s16 := by
  obtain ⟨r1, r2, r3, r4, r5, r6⟩ := r
  have g : ∀ {ks : List Nat}, ks.all (fun k => [1, 2, 3, 28, 29, 30, 31, 32, 34, 35, 36, 37, 38, 48].contains k) = true → ks.all (fun k => !W.contains k) = true := fun q => List.all_eq_true.mpr (fun k hk => by
    have := List.all_eq_true.mp q k hk
    rw [off e2 this]; rfl)
  have g2 : ∀ {ks : List Nat}, ks.all (fun k => [0, 16, 17, 18, 19, 20, 21, 33, 62, 63].contains k) = true → ks.all (fun k => !A.contains k) = true := fun q => List.all_eq_true.mpr (fun k hk => by
    have := List.all_eq_true.mp q k hk
    rw [off e3 this]; rfl)
  exact ⟨r1.fr f0 f1 (off e0 rfl) e1 (off e2 rfl) (off e3 rfl), TimR.fr r2 f0 f1 (off e0 rfl) (off e2 rfl), r3.fr f1 (g rfl), r4.fr f1 (g rfl) (g2 rfl), r5.fr f1 (g rfl) (off e3 rfl), r6.fr f0 f1 (off e0 rfl) (off e3 rfl) (off e3 rfl)⟩
theorem ET.mg {ks : List Nat} {n o : zSt} (h : ET o) (e2 : ks.contains 2 = true) (e3 : ks.contains 3 = true) : ET (zmg ks n o) := by
  intro i
  rw [zA_mg, if_pos e2, zA_mg, if_pos e3]
  exact h i
theorem add_ET {N : Nat} {s : zSt} {v1 v2 v3 v4 v5 v6 : Int32} {z : Int32 × zSt} (h : Entries_add N s v1 v2 v3 v4 v5 v6 = some z) (hE : ET s) (hv : v2.toInt = -1 ∨ (0 ≤ v3.toInt ∧ v3.toInt ≤ 11)) : ET z.2 := by
  unfold Entries_add Entries_add_b0 at h
  by_cases c : zI s 0 < 40
  · rw [if_pos c] at h
    have h := (zck_some h).2
    have h := (zck_some h).2
    have h := (zck_some h).2
    have h := (zck_some h).2
    have h := (zck_some h).2
    have h := (zck_some h).2
    have h := (zck_some h).2
    unfold Entries_add_b84 Entries_add_b94 at h
    cases h
    intro i
    have a2 : ∀ (g1 g2 g3 g4 g5 g6 g7 : Nat → Int32) (x : Int32), zA (zpI (zsA (zsA (zsA (zsA (zsA (zsA (zsA s 1 g1) 2 g2) 3 g3) 4 g4) 5 g5) 6 g6) 7 g7) 0 x) 2 = g2 := fun _ _ _ _ _ _ _ _ => rfl
    have a3 : ∀ (g1 g2 g3 g4 g5 g6 g7 : Nat → Int32) (x : Int32), zA (zpI (zsA (zsA (zsA (zsA (zsA (zsA (zsA s 1 g1) 2 g2) 3 g3) 4 g4) 5 g5) 6 g6) 7 g7) 0 x) 3 = g3 := fun _ _ _ _ _ _ _ _ => rfl
    rw [a2, a3, upd_at, upd_at]
    by_cases q : i = Int32.toNatClampNeg (zI s 0)
    · rw [if_pos q, if_pos q]; exact hv
    · rw [if_neg q, if_neg q]; exact hE i
  · rw [if_neg c] at h
    cases h
    exact hE
theorem sound_ET {N : Nat} {s0 s1 s2 : zSt} {v1 v2 v3 v4 v5 : Int32} {z : Int32 × zSt} (h : CH_sound N s0 s1 s2 v1 v2 v3 v4 v5 = some z) (hE : ET s2) : ET z.2 := by
  have e0 : (0 : Int32).toInt = 0 := by decide
  have e11 : (11 : Int32).toInt = 11 := by decide
  unfold CH_sound CH_sound_b0 at h
  rcases u_CH_isQuarter N v1 with q | ⟨q, _⟩ <;> rw [q] at h <;> simp only [zbs] at h
  · cases h; exact hE
  rw [if_neg n10] at h
  rcases u_Valley_hasEar N s1 v2 with q | ⟨q, _⟩ <;> rw [q] at h <;> simp only [zbs] at h
  · cases h; exact hE
  rw [if_neg n10] at h
  rcases u_CH_within N v3 0 11 with q | ⟨q, t1, t2⟩ <;> rw [q] at h <;> simp only [zbs] at h
  · cases h; exact hE
  rw [if_neg n10] at h
  rcases u_CH_within N v4 0 999 with q | ⟨q, _⟩ <;> rw [q] at h <;> simp only [zbs] at h
  · cases h; exact hE
  rw [if_neg n10] at h
  rcases u_CH_within N v5 v4 999 with q | ⟨q, _⟩ <;> rw [q] at h <;> simp only [zbs] at h
  · cases h; exact hE
  rw [if_neg n10] at h
  obtain ⟨w, ew, h⟩ := zbd_some h
  cases h
  exact add_ET ew hE (Or.inr ⟨by omega, by omega⟩)
theorem evening_ET {N : Nat} {s0 s1 : zSt} {v1 v2 : Int32} {z : Int32 × zSt} (h : CH_evening N s0 s1 v1 v2 = some z) (hE : ET s1) : ET z.2 := by
  unfold CH_evening CH_evening_b0 at h
  rcases u_CH_within N v1 0 20 with q | ⟨q, _⟩ <;> rw [q] at h <;> simp only [zbs] at h
  · cases h; exact hE
  rw [if_neg n10] at h
  rcases u_CH_within N v2 0 4095 with q | ⟨q, _⟩ <;> rw [q] at h <;> simp only [zbs] at h
  · cases h; exact hE
  rw [if_neg n10] at h
  obtain ⟨w, ew, h⟩ := zbd_some h
  cases h
  exact add_ET ew hE (Or.inl (by decide))
theorem note_ET {N : Nat} {s0 s1 s2 s3 : zSt} {v1 v2 v3 v4 : Int32} {z : Int32 × zSt} (h : CH_note N s0 s1 s2 s3 v1 v2 v3 v4 = some z) (hE : ET s3) : ET z.2 := by
  unfold CH_note CH_note_b0 at h
  obtain ⟨w, ew, h⟩ := zbd_some h
  by_cases c : w = -1
  · rw [if_pos c] at h; cases h; exact hE
  rw [if_neg c] at h
  rcases u_CH_within N v4 0 99 with q | ⟨q, _⟩ <;> rw [q] at h <;> simp only [zbs] at h
  · cases h; exact hE
  rw [if_neg n10] at h
  obtain ⟨w2, ew2, h⟩ := zbd_some h
  obtain ⟨w3, ew3, h⟩ := zbd_some h
  cases h
  exact sound_ET ew3 hE
theorem FdK.fr {s z : zSt} (h : FdK s z) : Fr [1] [0] z s := ⟨fun k hk => h.1 k (fun q => by subst q; exact absurd hk (by decide)), fun k hk => h.2 k (fun q => by subst q; exact absurd hk (by decide))⟩
