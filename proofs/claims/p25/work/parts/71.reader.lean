/-! the class's Reader -/
theorem upd_upd (f : Nat → Int32) (k : Nat) (x y : Int32) : upd (upd f k x) k y = upd f k y := by
  funext j
  unfold upd
  by_cases h : j = k
  · rw [if_pos h, if_pos h]
  · rw [if_neg h, if_neg h, if_neg h]
theorem upd_self (f : Nat → Int32) (k : Nat) : upd f k (f k) = f := by
  funext j
  unfold upd
  by_cases h : j = k
  · rw [if_pos h, h]
  · rw [if_neg h]
theorem zpI_pI (s : zSt) (k : Nat) (x y : Int32) : zpI (zpI s k x) k y = zpI s k y := by unfold zpI; simp only [upd_upd]
theorem zpI_self (s : zSt) (k : Nat) (x : Int32) (h : zI s k = x) : zpI s k x = s := by
  subst h
  unfold zpI zI
  rw [upd_self]
theorem sb_lo : ∀ c, c < 128 → sb_b c = nI c := by decide +kernel
theorem sb_le : ∀ c, c < 256 → (if sb_b c < 97 then (0 : Int32) else if 122 < sb_b c then 0 else 1) = if zle_ c then 1 else 0 := by decide +kernel
theorem sb_di : ∀ c, c < 256 → (if sb_b c < 48 then (0 : Int32) else if 57 < sb_b c then 0 else 1) = if zdi c then 1 else 0 := by decide +kernel
theorem sb_32 : ∀ c, c < 256 → (sb_b c = 32 ↔ c = 32) := by decide +kernel
theorem sb_10 : ∀ c, c < 256 → (sb_b c = 10 ↔ c = 10) := by decide +kernel
theorem sb_59 : ∀ c, c < 256 → (sb_b c = 59 ↔ c = 59) := by decide +kernel
theorem CH_within_eq (N : Nat) (a b c : Int32) : CH_within N a b c = some (if a < b then 0 else if c < a then 0 else 1) := by
  unfold CH_within CH_within_b0
  by_cases h1 : a < b
  · rw [if_pos h1, if_pos h1]
  · rw [if_neg h1, if_neg h1]
    by_cases h2 : c < a
    · rw [if_pos h2, if_pos h2]
    · rw [if_neg h2, if_neg h2]
theorem Reader_isLetter_eq {N c : Nat} (hc : c < 256) : Reader_isLetter N (sb_b c) = some (if zle_ c then 1 else 0) := by
  unfold Reader_isLetter Reader_isLetter_b0
  rw [CH_within_eq, sb_le c hc]
  show zcb _ _ = _
  rw [zcb_ite]
theorem Reader_isDigit_eq {N c : Nat} (hc : c < 256) : Reader_isDigit N (sb_b c) = some (if zdi c then 1 else 0) := by
  unfold Reader_isDigit Reader_isDigit_b0
  rw [CH_within_eq, sb_di c hc]
  show zcb _ _ = _
  rw [zcb_ite]
/-- the class's text -/
def rdT (s : zSt) (f : Nat → Int32) (T : Nat → Nat) (n : Nat) : Prop := n ≤ 1500 ∧ zI s 5 = nI n ∧ (∀ i, T i < 256) ∧ ∀ i, i < 1500 → f i = sb_b (T i)
theorem rdT.I {s : zSt} {f : Nat → Int32} {T : Nat → Nat} {n k : Nat} {v : Int32} (h : rdT s f T n) (hk : k ≠ 5) : rdT (zpI s k v) f T n := ⟨h.1, by rw [zI_pI, if_neg (by omega)]; exact h.2.1, h.2.2⟩
theorem Reader_blanks {N : Nat} {f : Nat → Int32} {T : Nat → Nat} {n : Nat} : ∀ (k a : Nat) (s : zSt), rdT s f T n → zI s 6 = nI a → a ≤ n → n - a < k → ∃ p, isRun T n zbl a p ∧ Reader_skipBlanks_h0 N f k s = some (zpI s 6 (nI p)) := by
  intro k
  induction k with
  | zero => intro a s _ _ _ h; exact absurd h (by omega)
  | succ k ih =>
    intro a s hT ha han hf
    have hn := hT.1
    rw [Reader_skipBlanks_h0_s]
    unfold Reader_skipBlanks_b0
    rw [hT.2.1, ha]
    by_cases hc : a < n
    · rw [if_neg (fun q => absurd ((nI_leI (by omega) (by omega)).mp q) (by omega)), zck_in (vp_in_nI (by omega) (by omega)), zck_in (vp_in_nI (by omega) (by omega)), nI_clamp (by omega), hT.2.2.2 a (by omega)]
      have hTa := hT.2.2.1 a
      by_cases hb : zbl (T a) = true
      · obtain ⟨p, hp, e⟩ := ih (a + 1) (zpI s 6 (nI (a + 1))) (hT.I (by decide)) (by rw [zI_pI, if_pos rfl]) (by omega) (by omega)
        refine ⟨p, hp.step hc hb, ?_⟩
        rw [zpI_pI] at e
        have go : Reader_skipBlanks_b39 N (Reader_skipBlanks_h0 N f k) s f = some (zpI s 6 (nI p)) := by
          unfold Reader_skipBlanks_b39
          rw [ha, nI_1]
          exact e
        rcases zbl_iff.mp hb with h | h
        · rw [if_pos ((sb_32 _ hTa).mpr h)]; exact go
        · by_cases h2 : sb_b (T a) = 32
          · rw [if_pos h2]; exact go
          · rw [if_neg h2, if_pos ((sb_10 _ hTa).mpr h)]; exact go
      · refine ⟨a, isRun.stop (fun _ => by cases hp : zbl (T a) with | true => exact absurd hp hb | false => rfl), ?_⟩
        rw [if_neg (fun q => hb (zbl_iff.mpr (Or.inl ((sb_32 _ hTa).mp q)))), if_neg (fun q => hb (zbl_iff.mpr (Or.inr ((sb_10 _ hTa).mp q)))), zpI_self s 6 _ ha]
    · refine ⟨a, isRun.stop (fun l => absurd l hc), ?_⟩
      rw [if_pos ((nI_leI (by omega) (by omega)).mpr (by omega)), zpI_self s 6 _ ha]
theorem Reader_word {N : Nat} {f : Nat → Int32} {T : Nat → Nat} {n p q m : Nat} (hq : isRun T n zle_ p q) (hp : p ≤ n) (hm : m < 205) : ∀ (k j : Nat) (s : zSt), rdT s f T n → zI s 0 = nI m → zI s 6 = nI (p + j) → p + j ≤ q → q - (p + j) < k →
    Reader_readWord_h7 N f (nI p) k s (zword T p j) = some (if q - p ≤ 8 then 2 else 1, zsB (zpI s 6 (nI q)) 3 (vp_updL (zB s 3) m (zword T p (q - p)))) := by
  intro k
  induction k with
  | zero => intro j s _ _ _ _ h; exact absurd h (by omega)
  | succ k ih =>
    intro j s hT h0 ha hj hf
    have hn := hT.1
    have hqn := hq.le hp
    rw [Reader_readWord_h7_s]
    unfold Reader_readWord_b7
    rw [hT.2.1, ha]
    have fin : p + j = q → Reader_readWord_b62 N s f (nI p) (zword T p j) = some (if q - p ≤ 8 then 2 else 1, zsB (zpI s 6 (nI q)) 3 (vp_updL (zB s 3) m (zword T p (q - p)))) := by
      intro e
      unfold Reader_readWord_b62
      rw [h0, zck_in (vp_in_nI hm (by decide)), nI_clamp (by omega), ha, pk_sub (by omega)]
      have hs : zpI s 6 (nI q) = s := zpI_self s 6 _ (by rw [ha, e])
      rw [hs, show p + j - p = j by omega, show q - p = j by omega]
      by_cases h8 : j ≤ 8
      · rw [if_neg (fun q => absurd ((zltR (k := 8) (by omega) (by decide)).mp q) (by omega)), if_pos h8]
      · rw [if_pos ((zltR (k := 8) (by omega) (by decide)).mpr (by omega)), if_neg h8]
    by_cases hc : p + j < q
    · have h1 := hq.2.1 (p + j) (by omega) hc
      have hTa := hT.2.2.1 (p + j)
      have hlt : T (p + j) < 128 := by have := zle_iff.mp h1.2; omega
      rw [if_neg (fun q => absurd ((nI_leI (by omega) (by omega)).mp q) (by omega)), zck_in (vp_in_nI (by omega) (by omega)), nI_clamp (by omega), hT.2.2.2 _ (by omega), Reader_isLetter_eq hTa, if_pos h1.2]
      simp only [zbs]
      rw [if_neg (by decide), zck_in (vp_in_nI (by omega) (by omega)), nI_1]
      have := ih (j + 1) (zpI s 6 (nI (p + j + 1))) (hT.I (by decide)) h0 (by rw [zI_pI, if_pos rfl]; rfl) (by omega) (by omega)
      rw [zpI_pI] at this
      rw [sb_lo _ hlt]
      exact this
    · have he : p + j = q := by omega
      by_cases hqn2 : q < n
      · have hTa := hT.2.2.1 (p + j)
        rw [if_neg (fun q => absurd ((nI_leI (by omega) (by omega)).mp q) (by omega)), zck_in (vp_in_nI (by omega) (by omega)), nI_clamp (by omega), hT.2.2.2 _ (by omega), Reader_isLetter_eq hTa, if_neg (by rw [he, hq.2.2 hqn2]; decide)]
        simp only [zbs]
        rw [if_pos trivial]
        exact fin he
      · rw [if_pos ((nI_leI (by omega) (by omega)).mpr (by omega))]
        exact fin he
theorem zdig_stepL {a c : Nat} (hc : 48 ≤ c) : lN a * 10 + lN c - 48 = lN (10 * a + (c - 48)) := by
  show lN a * lN 10 + lN c - lN 48 = _
  rw [lN_mul, lN_add, lN_sub (by omega)]
  congr 1
  omega
theorem Reader_number {N : Nat} {f : Nat → Int32} {T : Nat → Nat} {n p q m : Nat} (hq : isRun T n zdi p q) (hp : p ≤ n) (hm : m < 205) : ∀ (k j : Nat) (s : zSt) (v : Int64), rdT s f T n → zI s 0 = nI m → zI s 6 = nI (p + j) → p + j ≤ q → q - (p + j) < k → (j ≤ 4 → v = lN (znum T p j)) →
    ∃ v2 : Int64, (q - p ≤ 4 → v2 = lN (znum T p (q - p))) ∧ Reader_readNumber_h7 N f (nI p) k s v = some (if q - p ≤ 4 ∧ ¬ (q < n ∧ zle_ (T q) = true) then 3 else 1, zsB (zpI s 6 (nI q)) 3 (vp_updL (zB s 3) m v2)) := by
  intro k
  induction k with
  | zero => intro j s v _ _ _ _ h; exact absurd h (by omega)
  | succ k ih =>
    intro j s v hT h0 ha hj hf hv
    have hn := hT.1
    have hqn := hq.le hp
    rw [Reader_readNumber_h7_s]
    unfold Reader_readNumber_b7
    rw [hT.2.1, ha]
    have fin : p + j = q → ∃ v2 : Int64, (q - p ≤ 4 → v2 = lN (znum T p (q - p))) ∧ Reader_readNumber_b67 N s f (nI p) v = some (if q - p ≤ 4 ∧ ¬ (q < n ∧ zle_ (T q) = true) then 3 else 1, zsB (zpI s 6 (nI q)) 3 (vp_updL (zB s 3) m v2)) := by
      intro e
      refine ⟨v, fun h => by rw [show q - p = j by omega]; exact hv (by omega), ?_⟩
      have hs : zpI s 6 (nI q) = s := zpI_self s 6 _ (by rw [ha, e])
      have b108 : ∀ t : Int32, Reader_readNumber_b108 N (zsB s 3 (vp_updL (zB s 3) m v)) f (nI p) t = some (if j ≤ 4 ∧ t = 0 then 3 else 1, zsB s 3 (vp_updL (zB s 3) m v)) := by
        intro t
        unfold Reader_readNumber_b108
        rw [zI_sB, ha, pk_sub (by omega), show p + j - p = j by omega]
        by_cases h8 : j ≤ 4
        · rw [if_neg (fun q => absurd ((zltR (k := 4) (by omega) (by decide)).mp q) (by omega))]
          by_cases ht : t = 0
          · rw [if_pos ht, if_pos ⟨h8, ht⟩]
          · rw [if_neg ht, if_neg (fun q => ht q.2)]
        · rw [if_pos ((zltR (k := 4) (by omega) (by decide)).mpr (by omega)), if_neg (fun q => h8 q.1)]
      unfold Reader_readNumber_b67
      rw [h0, zck_in (vp_in_nI hm (by decide)), nI_clamp (by omega), hT.2.1, ha, hs, show q - p = j by omega, e]
      by_cases hc : q < n
      · have hTa := hT.2.2.1 q
        rw [if_neg (fun q => absurd ((nI_leI (by omega) (by omega)).mp q) (by omega)), zck_in (vp_in_nI (by omega) (by omega)), nI_clamp (by omega), hT.2.2.2 _ (by omega), Reader_isLetter_eq hTa]
        by_cases hl : zle_ (T q) = true
        · rw [if_pos hl]
          simp only [zbs]
          rw [if_neg (by decide), b108, if_neg (fun q => absurd q.2 (by decide)), if_neg (fun q => q.2 ⟨hc, hl⟩)]
        · rw [if_neg hl]
          simp only [zbs]
          rw [if_pos trivial]
          unfold Reader_readNumber_b107
          rw [b108]
          by_cases h8 : j ≤ 4
          · rw [if_pos ⟨h8, rfl⟩, if_pos ⟨h8, fun q => hl q.2⟩]
          · rw [if_neg (fun q => h8 q.1), if_neg (fun q => h8 q.1)]
      · rw [if_pos ((nI_leI (by omega) (by omega)).mpr (by omega))]
        unfold Reader_readNumber_b107
        rw [b108]
        by_cases h8 : j ≤ 4
        · rw [if_pos ⟨h8, rfl⟩, if_pos ⟨h8, fun q => hc q.1⟩]
        · rw [if_neg (fun q => h8 q.1), if_neg (fun q => h8 q.1)]
    by_cases hc : p + j < q
    · have h1 := hq.2.1 (p + j) (by omega) hc
      have hTa := hT.2.2.1 (p + j)
      have hd := zdi_iff.mp h1.2
      rw [if_neg (fun q => absurd ((nI_leI (by omega) (by omega)).mp q) (by omega)), zck_in (vp_in_nI (by omega) (by omega)), nI_clamp (by omega), hT.2.2.2 _ (by omega), Reader_isDigit_eq hTa, if_pos h1.2]
      simp only [zbs]
      rw [if_neg (by decide), zck_in (vp_in_nI (by omega) (by omega)), nI_1]
      have := ih (j + 1) (zpI s 6 (nI (p + j + 1))) (v * 10 + Int32.toInt64 (sb_b (T (p + j))) - 48) (hT.I (by decide)) h0 (by rw [zI_pI, if_pos rfl]; rfl) (by omega) (by omega) (fun h4 => by
        rw [hv (by omega), sb_lo _ (by omega), nI_l (by omega)]
        exact zdig_stepL hd.1)
      obtain ⟨v2, e1, e2⟩ := this
      rw [zpI_pI] at e2
      exact ⟨v2, e1, e2⟩
    · have he : p + j = q := by omega
      by_cases hqn2 : q < n
      · have hTa := hT.2.2.1 (p + j)
        rw [if_neg (fun q => absurd ((nI_leI (by omega) (by omega)).mp q) (by omega)), zck_in (vp_in_nI (by omega) (by omega)), nI_clamp (by omega), hT.2.2.2 _ (by omega), Reader_isDigit_eq hTa, if_neg (by rw [he, hq.2.2 hqn2]; decide)]
        simp only [zbs]
        rw [if_pos trivial]
        exact fin he
      · rw [if_pos ((nI_leI (by omega) (by omega)).mpr (by omega))]
        exact fin he
/-- a state's fields and rows but those named -/
theorem zB_updL (s : zSt) (k : Nat) (f : Nat → Int64) (v : Int32) (j : Nat) : zB (zsB (zpI s j v) k f) k = f := by rw [zB_sB, if_pos rfl]
def zcode (so : Nat) : Nat := if so = 0 then 0 else if so = 1 then 2 else if so = 2 then 3 else if so = 59 then 4 else 1
/-- one token of the Reader: what it answers, what it leaves -/
theorem Reader_token {N : Nat} (hN : 1600 ≤ N) {f : Nat → Int32} {T : Nat → Nat} {n a p m : Nat} {s : zSt} (hT : rdT s f T n) (hp : isRun T n zbl a p) (han : a ≤ n) (h0 : zI s 0 = nI m) (hm : m < 205) (ha : zI s 6 = nI p) :
    ∃ so w nu nx, Tk T n a so p w nu nx ∧ ∃ (e : Nat) (g : Nat → Int64), Reader_readToken N s f = some (nI (zcode so), zsB (zpI s 6 (nI e)) 3 g) ∧ (so ≠ 3 → e = nx ∧ nx ≤ n ∧ (so ≠ 0 → a < nx)) ∧ (∀ i, i ≠ m → g i = zB s 3 i) ∧ (so = 1 → g m = w) ∧ (so = 2 → g m = lN nu) := by
  have hn := hT.1
  have hpn := hp.le han
  unfold Reader_readToken Reader_readToken_b0
  rw [ha, hT.2.1]
  have hself : zsB (zpI s 6 (nI p)) 3 (zB s 3) = s := by
    rw [zpI_self s 6 _ ha]
    show (s.1, s.2.1, s.2.2.1, va_up s.2.2.2 3 (s.2.2.2 3)) = s
    have : va_up s.2.2.2 3 (s.2.2.2 3) = s.2.2.2 := by
      funext j
      unfold va_up
      by_cases h : j = 3
      · rw [if_pos h, h]
      · rw [if_neg h]
    rw [this]
  by_cases hc : p < n
  · have hTa := hT.2.2.1 p
    rw [if_pos ((nI_ltI (by omega) (by omega)).mpr hc), zck_in (vp_in_nI (by omega) (by omega)), nI_clamp (by omega), hT.2.2.2 _ (by omega), Reader_isLetter_eq hTa]
    by_cases hl : zle_ (T p) = true
    · rw [if_pos hl]
      simp only [zbs]
      rw [if_neg (by decide)]
      obtain ⟨q, hq⟩ := isRun.ex T n zle_ (n - p) p (Nat.le_refl _)
      have hqn := hq.le hpn
      have hpq : p < q := by
        rcases Nat.lt_or_ge p q with h | h
        · exact h
        · have : q = p := by have := hq.1; omega
          subst this
          rw [hq.2.2 hc] at hl
          exact absurd hl (by decide)
      refine ⟨_, _, _, _, ⟨hp, Or.inr (Or.inl ⟨hc, hl, q, hq, rfl, rfl, rfl, rfl⟩)⟩, q, vp_updL (zB s 3) m (zword T p (q - p)), ?_, ?_, ?_, ?_, ?_⟩
      · have := Reader_word (N := N) hq hpn hm N 0 s hT h0 ha (by omega) (by omega)
        show (Reader_readWord N s f).bind _ = _
        unfold Reader_readWord Reader_readWord_b0
        rw [ha]
        rw [show (0 : Int64) = zword T p 0 from rfl, this]
        simp only [zbs]
        by_cases h8 : q - p ≤ 8
        · rw [if_pos h8, if_pos h8]; rfl
        · rw [if_neg h8, if_neg h8]; rfl
      · intro h
        by_cases h8 : q - p ≤ 8
        · rw [if_pos h8]; exact ⟨rfl, hqn, fun _ => by have := hp.1; omega⟩
        · rw [if_neg h8] at h; exact absurd rfl h
      · intro i hi
        unfold vp_updL
        rw [if_neg hi]
      · intro h
        by_cases h8 : q - p ≤ 8
        · rw [if_pos h8]; unfold vp_updL; rw [if_pos rfl]
        · rw [if_neg h8] at h; exact absurd h (by decide)
      · intro h
        by_cases h8 : q - p ≤ 8
        · rw [if_pos h8] at h; exact absurd h (by decide)
        · rw [if_neg h8] at h; exact absurd h (by decide)
    · rw [if_neg hl]
      simp only [zbs]
      rw [if_pos trivial, zck_in (vp_in_nI (by omega) (by omega)), Reader_isDigit_eq hTa]
      by_cases hd : zdi (T p) = true
      · rw [if_pos hd]
        simp only [zbs]
        rw [if_neg (by decide)]
        obtain ⟨q, hq⟩ := isRun.ex T n zdi (n - p) p (Nat.le_refl _)
        have hqn := hq.le hpn
        have hpq : p < q := by
          rcases Nat.lt_or_ge p q with h | h
          · exact h
          · have : q = p := by have := hq.1; omega
            subst this
            rw [hq.2.2 hc] at hd
            exact absurd hd (by decide)
        obtain ⟨v2, e1, e2⟩ := Reader_number (N := N) hq hpn hm N 0 s 0 hT h0 ha (by omega) (by omega) (fun _ => rfl)
        refine ⟨_, _, _, _, ⟨hp, Or.inr (Or.inr (Or.inl ⟨hc, hd, q, hq, rfl, rfl, rfl, rfl⟩))⟩, q, vp_updL (zB s 3) m v2, ?_, ?_, ?_, ?_, ?_⟩
        · show (Reader_readNumber N s f).bind _ = _
          unfold Reader_readNumber Reader_readNumber_b0
          rw [ha, e2]
          simp only [zbs]
          by_cases h8 : q - p ≤ 4 ∧ ¬ (q < n ∧ zle_ (T q) = true)
          · rw [if_pos h8, if_pos h8]; rfl
          · rw [if_neg h8, if_neg h8]; rfl
        · intro h
          by_cases h8 : q - p ≤ 4 ∧ ¬ (q < n ∧ zle_ (T q) = true)
          · rw [if_pos h8]; exact ⟨rfl, hqn, fun _ => by have := hp.1; omega⟩
          · rw [if_neg h8] at h; exact absurd rfl h
        · intro i hi
          unfold vp_updL
          rw [if_neg hi]
        · intro h
          by_cases h8 : q - p ≤ 4 ∧ ¬ (q < n ∧ zle_ (T q) = true)
          · rw [if_pos h8] at h; exact absurd h (by decide)
          · rw [if_neg h8] at h; exact absurd h (by decide)
        · intro h
          by_cases h8 : q - p ≤ 4 ∧ ¬ (q < n ∧ zle_ (T q) = true)
          · unfold vp_updL; rw [if_pos rfl, if_pos h8.1]; exact e1 h8.1
          · rw [if_neg h8] at h; exact absurd h (by decide)
      · rw [if_neg hd]
        simp only [zbs]
        rw [if_pos trivial, zck_in (vp_in_nI (by omega) (by omega))]
        have hl : zle_ (T p) = false := by cases hp : zle_ (T p) with | true => exact absurd hp hl | false => rfl
        have hd : zdi (T p) = false := by cases hp : zdi (T p) with | true => exact absurd hp hd | false => rfl
        have hs2 : zsB (zpI s 6 (nI (p + 1))) 3 (zB s 3) = zpI s 6 (nI (p + 1)) := by
          show (upd s.1 6 _, s.2.1, s.2.2.1, va_up s.2.2.2 3 (s.2.2.2 3)) = _
          have : va_up s.2.2.2 3 (s.2.2.2 3) = s.2.2.2 := by
            funext j
            unfold va_up
            by_cases h : j = 3
            · rw [if_pos h, h]
            · rw [if_neg h]
          rw [this]
          rfl
        refine ⟨_, _, _, _, ⟨hp, Or.inr (Or.inr (Or.inr ⟨hc, hl, hd, rfl, rfl, rfl, rfl⟩))⟩, p + 1, zB s 3, ?_, ?_, fun _ _ => rfl, ?_, ?_⟩
        · rw [hs2]
          by_cases h59 : T p = 59
          · rw [if_pos ((sb_59 _ hTa).mpr h59), if_pos h59]
            unfold Reader_readToken_b72
            rw [if_neg (by decide), ha, nI_1]
            rfl
          · rw [if_neg (fun q => h59 ((sb_59 _ hTa).mp q)), if_neg h59]
            unfold Reader_readToken_b72
            rw [if_pos rfl, ha, nI_1]
            rfl
        · intro h
          by_cases h59 : T p = 59
          · rw [if_pos h59]; exact ⟨rfl, by omega, fun _ => by have := hp.1; omega⟩
          · rw [if_neg h59] at h; exact absurd rfl h
        · intro h
          by_cases h59 : T p = 59
          · rw [if_pos h59] at h; exact absurd h (by decide)
          · rw [if_neg h59] at h; exact absurd h (by decide)
        · intro h
          by_cases h59 : T p = 59
          · rw [if_pos h59] at h; exact absurd h (by decide)
          · rw [if_neg h59] at h; exact absurd h (by decide)
  · rw [if_neg (fun q => hc ((nI_ltI (by omega) (by omega)).mp q))]
    refine ⟨_, _, _, _, ⟨hp, Or.inl ⟨by omega, rfl, rfl, rfl, rfl⟩⟩, p, zB s 3, ?_, fun _ => ⟨rfl, by omega, fun h => absurd rfl h⟩, fun _ _ => rfl, fun h => absurd h (by decide), fun h => absurd h (by decide)⟩
    rw [hself]
    rfl
