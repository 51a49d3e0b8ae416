/-! cracked and first: no entries, no beasts -/
theorem cg0 (v : Int32) : Creeps_gather 200 zz zz zz v = some (zpI (zpI zz 0 0) 2 0) := by
  rw [Creeps_gather, Creeps_gather_b0, Creeps_gather_h8_s, Creeps_gather_b8, if_pos (by decide), Creeps_gather_b67, Creeps_gather_h75_s, Creeps_gather_b75, if_pos (by decide)]
theorem q_least : (Creeps_leastTogether 200 (zmg [6] (zpI (zpI zz 0 0) 2 0) zz) 8 (zA zz 10)).map (·.1) = some 0 := by decide +kernel
theorem q_cant : (Creeps_firstThatCant 200 (zpI (zpI zz 0 0) 2 0)).map (·.1) = some (-1) := by decide +kernel
theorem p_first (v : Int32) : zeqv (CH_first 200 zz zz zz zz v) (Mo_first 200 m0 v) (fun z w => z.1 = w.1) := by
  obtain ⟨z, e, hz⟩ := zmp q_cant
  rw [CH_first, CH_first_b0, if_pos (by decide), cg0]
  simp only [zbs]
  rw [e, Mo_first, Mo_first_b0, if_pos (by decide), Mo_first_h14_s, Mo_first_b14, if_pos (by decide)]
  exact ⟨_, _, rfl, rfl, hz⟩
theorem ev0 (s : zSt) (v : Int32) (h : zI s 47 = 0) : Mo_areEvenings 200 s v (zI s 47 - 1) = some 1 := by
  rw [h, Mo_areEvenings, Mo_areEvenings_b0, Mo_areEvenings_h5_s, Mo_areEvenings_b5, if_pos (by decide), zcb1]
def ct0 : zSt := zmg [16,21,39,40,42,45,46,57] ((Mo_clearTried 200 (zpI m0 58 0)).getD zz) (zpI m0 58 0)
def pd0 : zSt := zmg [16,21,39,40,42,45,46] ((Mo_putDown 200 ct0).getD zz) ct0
theorem zgd {α : Type} {o : Option α} {d : α} (h : o.isSome = true) : o = some (o.getD d) := by
  cases o with
  | none => cases h
  | some z => rfl
theorem q_clear : (Mo_clearTried 200 (zpI m0 58 0)).isSome = true := by decide +kernel
theorem q_put : (Mo_putDown 200 ct0).isSome = true := by decide +kernel
theorem q_sum : Mo_triedSum 200 ct0 = some 0 := by decide +kernel
theorem q_ct : zI ct0 47 = 0 := by decide +kernel
theorem q_next : (Mo_nextTried 200 pd0).map (·.1) = some 0 := by decide +kernel
theorem pc_A (v : Int32) : zok (CH_cracked 200 zz zz zz zz v) (fun z => z.1 = 0) := by
  obtain ⟨z, e, hz⟩ := zmp q_least
  rw [CH_cracked, CH_cracked_b0, if_pos (by decide), cg0]
  simp only [zbs]
  rw [e]
  simp only [zbs]
  exact zok_ite (fun _ => zok_some hz) (fun _ => zok_some hz)
theorem pc_B1 (v : Int32) : Mo_cracked 200 m0 v = Mo_cracked_h25 200 v 200 ct0 (-1) 1 := by
  rw [Mo_cracked, Mo_cracked_b0, if_pos (by decide), zgd (d := zz) q_clear, zbs]
  unfold ct0
  exact rfl
theorem pc_B2 (v : Int32) (k : zSt → Int32 → Int32 → Option (Int32 × zSt)) (hk : ∀ s, k s 0 0 = some (0, s)) : zok (Mo_cracked_b25 200 k ct0 v (-1) 1) (fun z => z.1 = 0) := by
  rw [Mo_cracked_b25, if_neg i01, ev0 _ _ q_ct, zbs, if_neg i01, if_pos (by decide), Mo_cracked_b55, q_sum, zbs, zgd (d := zz) q_put, zbs]
  obtain ⟨z, e, hz⟩ := zmp q_next
  rw [Mo_cracked_b64, show Mo_nextTried 200 (zmg [16,21,39,40,42,45,46] ((Mo_putDown 200 ct0).getD zz) ct0) = some z from e, zbs, hz, hk]
  exact zok_some rfl
theorem p_cracked (v : Int32) : zeqv (CH_cracked 200 zz zz zz zz v) (Mo_cracked 200 m0 v) (fun z w => z.1 = w.1) := by
  have B : zok (Mo_cracked 200 m0 v) (fun z => z.1 = 0) := by
    rw [pc_B1, Mo_cracked_h25_s]
    exact pc_B2 v _ (fun s => by rw [Mo_cracked_h25_s, Mo_cracked_b25, if_pos rfl])
  obtain ⟨z, e1, h1⟩ := pc_A v
  obtain ⟨w, e2, h2⟩ := B
  exact ⟨z, w, e1, e2, h1.trans h2.symm⟩
