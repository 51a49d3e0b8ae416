theorem IS_z {rg ra : Nat → Int × Int} {s : zSt} (h1 : ∀ k, (rg k).1 ≤ 0 ∧ 0 ≤ (rg k).2) (h2 : ∀ k, (ra k).1 ≤ 0 ∧ 0 ≤ (ra k).2) (i : ∀ k, zI s k = 0 ∨ rg k = (-2147483648, 2147483647)) (a : ∀ k i, zA s k i = 0) : IS rg ra s := by
  have e0 : (0 : Int32).toInt = 0 := by decide
  refine ⟨fun k => ?_, fun k j => ?_⟩
  · rcases i k with q | q
    · rw [q, e0]; exact h1 k
    · rw [q]; exact tr _
  · rw [a k j, e0]; exact h2 k
theorem rz {c : Prop} [Decidable c] {a b : Int × Int} (ha : a.1 ≤ 0 ∧ 0 ≤ a.2) (hb : b.1 ≤ 0 ∧ 0 ≤ b.2) : (if c then a else b).1 ≤ 0 ∧ 0 ≤ (if c then a else b).2 := by
  by_cases q : c
  · rw [if_pos q]; exact ha
  · rw [if_neg q]; exact hb
theorem zrg_Bounds : ∀ k, (rg_Bounds k).1 ≤ 0 ∧ 0 ≤ (rg_Bounds k).2 := fun k => rz (show (0 : Int) ≤ 0 ∧ (0 : Int) ≤ 4 by decide) ((show (-2147483648 : Int) ≤ 0 ∧ (0 : Int) ≤ 2147483647 by decide))
theorem zra_Bounds : ∀ k, (ra_Bounds k).1 ≤ 0 ∧ 0 ≤ (ra_Bounds k).2 := fun k => rz (show (0 : Int) ≤ 0 ∧ (0 : Int) ≤ 3 by decide) ((show (-2147483648 : Int) ≤ 0 ∧ (0 : Int) ≤ 2147483647 by decide))
theorem zz_Bounds : I_Bounds zz := IS_z zrg_Bounds zra_Bounds (fun _ => Or.inl rfl) (fun _ _ => rfl)
theorem zrg_CH : ∀ k, (rg_CH k).1 ≤ 0 ∧ 0 ≤ (rg_CH k).2 := fun k => rz (show (0 : Int) ≤ 0 ∧ (0 : Int) ≤ 1500 by decide) (rz (show (0 : Int) ≤ 0 ∧ (0 : Int) ≤ 100000 by decide) (rz (show (0 : Int) ≤ 0 ∧ (0 : Int) ≤ 8 by decide) ((show (-2147483648 : Int) ≤ 0 ∧ (0 : Int) ≤ 2147483647 by decide))))
theorem zra_CH : ∀ k, (ra_CH k).1 ≤ 0 ∧ 0 ≤ (ra_CH k).2 := fun k => (show (-2147483648 : Int) ≤ 0 ∧ (0 : Int) ≤ 2147483647 by decide)
theorem zz_CH : I_CH zz := IS_z zrg_CH zra_CH (fun _ => Or.inl rfl) (fun _ _ => rfl)
theorem zrg_Creeps : ∀ k, (rg_Creeps k).1 ≤ 0 ∧ 0 ≤ (rg_Creeps k).2 := fun k => rz (show (0 : Int) ≤ 0 ∧ (0 : Int) ≤ 8 by decide) (rz (show (0 : Int) ≤ 0 ∧ (0 : Int) ≤ 40 by decide) (rz (show (0 : Int) ≤ 0 ∧ (0 : Int) ≤ 17 by decide) (rz (show (-1 : Int) ≤ 0 ∧ (0 : Int) ≤ 40 by decide) ((show (-2147483648 : Int) ≤ 0 ∧ (0 : Int) ≤ 2147483647 by decide)))))
theorem zra_Creeps : ∀ k, (ra_Creeps k).1 ≤ 0 ∧ 0 ≤ (ra_Creeps k).2 := fun k => rz (show (0 : Int) ≤ 0 ∧ (0 : Int) ≤ 11 by decide) (rz (show (0 : Int) ≤ 0 ∧ (0 : Int) ≤ 39 by decide) (rz (show (0 : Int) ≤ 0 ∧ (0 : Int) ≤ 2 by decide) ((show (-2147483648 : Int) ≤ 0 ∧ (0 : Int) ≤ 2147483647 by decide))))
theorem zz_Creeps : I_Creeps zz := IS_z zrg_Creeps zra_Creeps (fun _ => Or.inl rfl) (fun _ _ => rfl)
theorem zrg_Dealer : ∀ k, (rg_Dealer k).1 ≤ 0 ∧ 0 ≤ (rg_Dealer k).2 := fun k => rz (show (0 : Int) ≤ 0 ∧ (0 : Int) ≤ 8 by decide) (rz (show (0 : Int) ≤ 0 ∧ (0 : Int) ≤ 2 by decide) ((show (-2147483648 : Int) ≤ 0 ∧ (0 : Int) ≤ 2147483647 by decide)))
theorem zra_Dealer : ∀ k, (ra_Dealer k).1 ≤ 0 ∧ 0 ≤ (ra_Dealer k).2 := fun k => rz (show (0 : Int) ≤ 0 ∧ (0 : Int) ≤ 99 by decide) ((show (-2147483648 : Int) ≤ 0 ∧ (0 : Int) ≤ 2147483647 by decide))
theorem zz_Dealer : I_Dealer zz := IS_z zrg_Dealer zra_Dealer (fun _ => Or.inl rfl) (fun _ _ => rfl)
theorem zrg_Earnest : ∀ k, (rg_Earnest k).1 ≤ 0 ∧ 0 ≤ (rg_Earnest k).2 := fun k => rz (show (0 : Int) ≤ 0 ∧ (0 : Int) ≤ 99 by decide) (rz (show (0 : Int) ≤ 0 ∧ (0 : Int) ≤ 20 by decide) (rz (show (0 : Int) ≤ 0 ∧ (0 : Int) ≤ 200 by decide) ((show (-2147483648 : Int) ≤ 0 ∧ (0 : Int) ≤ 2147483647 by decide))))
theorem zra_Earnest : ∀ k, (ra_Earnest k).1 ≤ 0 ∧ 0 ≤ (ra_Earnest k).2 := fun k => rz (show (0 : Int) ≤ 0 ∧ (0 : Int) ≤ 2 by decide) ((show (-2147483648 : Int) ≤ 0 ∧ (0 : Int) ≤ 2147483647 by decide))
theorem zz_Earnest : I_Earnest zz := IS_z zrg_Earnest zra_Earnest (fun _ => Or.inl rfl) (fun _ _ => rfl)
theorem zrg_Entries : ∀ k, (rg_Entries k).1 ≤ 0 ∧ 0 ≤ (rg_Entries k).2 := fun k => rz (show (0 : Int) ≤ 0 ∧ (0 : Int) ≤ 40 by decide) ((show (-2147483648 : Int) ≤ 0 ∧ (0 : Int) ≤ 2147483647 by decide))
theorem zra_Entries : ∀ k, (ra_Entries k).1 ≤ 0 ∧ 0 ≤ (ra_Entries k).2 := fun k => rz (show (-1 : Int) ≤ 0 ∧ (0 : Int) ≤ 3 by decide) ((show (-2147483648 : Int) ≤ 0 ∧ (0 : Int) ≤ 2147483647 by decide))
theorem zz_Entries : I_Entries zz := IS_z zrg_Entries zra_Entries (fun _ => Or.inl rfl) (fun _ _ => rfl)
theorem zrg_Mo : ∀ k, (rg_Mo k).1 ≤ 0 ∧ 0 ≤ (rg_Mo k).2 := fun k => rz (show (0 : Int) ≤ 0 ∧ (0 : Int) ≤ 1500 by decide) (rz (show (0 : Int) ≤ 0 ∧ (0 : Int) ≤ 3 by decide) (rz (show (0 : Int) ≤ 0 ∧ (0 : Int) ≤ 11 by decide) (rz (show (0 : Int) ≤ 0 ∧ (0 : Int) ≤ 9 by decide) (rz (show (0 : Int) ≤ 0 ∧ (0 : Int) ≤ 2 by decide) (rz (show (0 : Int) ≤ 0 ∧ (0 : Int) ≤ 4 by decide) (rz (show (0 : Int) ≤ 0 ∧ (0 : Int) ≤ 40 by decide) (rz (show (0 : Int) ≤ 0 ∧ (0 : Int) ≤ 100000 by decide) (rz (show (0 : Int) ≤ 0 ∧ (0 : Int) ≤ 1 by decide) (rz (show (0 : Int) ≤ 0 ∧ (0 : Int) ≤ 3 by decide) (rz (show (0 : Int) ≤ 0 ∧ (0 : Int) ≤ 3 by decide) (rz (show (0 : Int) ≤ 0 ∧ (0 : Int) ≤ 9 by decide) (rz (show (0 : Int) ≤ 0 ∧ (0 : Int) ≤ 64 by decide) ((show (-2147483648 : Int) ≤ 0 ∧ (0 : Int) ≤ 2147483647 by decide))))))))))))))
theorem zra_Mo : ∀ k, (ra_Mo k).1 ≤ 0 ∧ 0 ≤ (ra_Mo k).2 := fun k => rz (show (0 : Int) ≤ 0 ∧ (0 : Int) ≤ 10 by decide) (rz (show (0 : Int) ≤ 0 ∧ (0 : Int) ≤ 3 by decide) (rz (show (0 : Int) ≤ 0 ∧ (0 : Int) ≤ 1 by decide) (rz (show (0 : Int) ≤ 0 ∧ (0 : Int) ≤ 11 by decide) (rz (show (0 : Int) ≤ 0 ∧ (0 : Int) ≤ 1 by decide) ((show (-2147483648 : Int) ≤ 0 ∧ (0 : Int) ≤ 2147483647 by decide))))))
theorem zz_Mo : I_Mo zz := IS_z zrg_Mo zra_Mo (fun _ => Or.inl rfl) (fun _ _ => rfl)
theorem zrg_Parting : ∀ k, (rg_Parting k).1 ≤ 0 ∧ 0 ≤ (rg_Parting k).2 := fun k => rz (show (0 : Int) ≤ 0 ∧ (0 : Int) ≤ 1 by decide) (rz (show (0 : Int) ≤ 0 ∧ (0 : Int) ≤ 3 by decide) (rz (show (0 : Int) ≤ 0 ∧ (0 : Int) ≤ 99 by decide) (rz (show (0 : Int) ≤ 0 ∧ (0 : Int) ≤ 3 by decide) (rz (show (0 : Int) ≤ 0 ∧ (0 : Int) ≤ 99 by decide) (rz (show (0 : Int) ≤ 0 ∧ (0 : Int) ≤ 95 by decide) ((show (-2147483648 : Int) ≤ 0 ∧ (0 : Int) ≤ 2147483647 by decide)))))))
theorem zra_Parting : ∀ k, (ra_Parting k).1 ≤ 0 ∧ 0 ≤ (ra_Parting k).2 := fun k => (show (-2147483648 : Int) ≤ 0 ∧ (0 : Int) ≤ 2147483647 by decide)
theorem zz_Parting : I_Parting zz := IS_z zrg_Parting zra_Parting (fun _ => Or.inl rfl) (fun _ _ => rfl)
theorem zrg_Sets : ∀ k, (rg_Sets k).1 ≤ 0 ∧ 0 ≤ (rg_Sets k).2 := fun k => rz (show (0 : Int) ≤ 0 ∧ (0 : Int) ≤ 1 by decide) (rz (show (0 : Int) ≤ 0 ∧ (0 : Int) ≤ 11 by decide) ((show (-2147483648 : Int) ≤ 0 ∧ (0 : Int) ≤ 2147483647 by decide)))
theorem zra_Sets : ∀ k, (ra_Sets k).1 ≤ 0 ∧ 0 ≤ (ra_Sets k).2 := fun k => rz (show (0 : Int) ≤ 0 ∧ (0 : Int) ≤ 10 by decide) (rz (show (0 : Int) ≤ 0 ∧ (0 : Int) ≤ 11 by decide) ((show (-2147483648 : Int) ≤ 0 ∧ (0 : Int) ≤ 2147483647 by decide)))
theorem zz_Sets : I_Sets zz := IS_z zrg_Sets zra_Sets (fun _ => Or.inl rfl) (fun _ _ => rfl)
theorem zrg_Teller : ∀ k, (rg_Teller k).1 ≤ 0 ∧ 0 ≤ (rg_Teller k).2 := fun k => (show (-2147483648 : Int) ≤ 0 ∧ (0 : Int) ≤ 2147483647 by decide)
theorem zra_Teller : ∀ k, (ra_Teller k).1 ≤ 0 ∧ 0 ≤ (ra_Teller k).2 := fun k => (show (-2147483648 : Int) ≤ 0 ∧ (0 : Int) ≤ 2147483647 by decide)
theorem zz_Teller : I_Teller zz := IS_z zrg_Teller zra_Teller (fun _ => Or.inl rfl) (fun _ _ => rfl)
theorem zrg_Valley : ∀ k, (rg_Valley k).1 ≤ 0 ∧ 0 ≤ (rg_Valley k).2 := fun k => rz (show (0 : Int) ≤ 0 ∧ (0 : Int) ≤ 3 by decide) (rz (show (0 : Int) ≤ 0 ∧ (0 : Int) ≤ 11 by decide) (rz (show (0 : Int) ≤ 0 ∧ (0 : Int) ≤ 2047 by decide) (rz (show (0 : Int) ≤ 0 ∧ (0 : Int) ≤ 9 by decide) (rz (show (0 : Int) ≤ 0 ∧ (0 : Int) ≤ 20 by decide) (rz (show (0 : Int) ≤ 0 ∧ (0 : Int) ≤ 4 by decide) ((show (-2147483648 : Int) ≤ 0 ∧ (0 : Int) ≤ 2147483647 by decide)))))))
theorem zra_Valley : ∀ k, (ra_Valley k).1 ≤ 0 ∧ 0 ≤ (ra_Valley k).2 := fun k => rz (show (0 : Int) ≤ 0 ∧ (0 : Int) ≤ 11 by decide) (rz (show (0 : Int) ≤ 0 ∧ (0 : Int) ≤ 99 by decide) (rz (show (-1 : Int) ≤ 0 ∧ (0 : Int) ≤ 2 by decide) (rz (show (0 : Int) ≤ 0 ∧ (0 : Int) ≤ 99 by decide) ((show (-2147483648 : Int) ≤ 0 ∧ (0 : Int) ≤ 2147483647 by decide)))))
theorem zz_Valley : I_Valley zz := IS_z zrg_Valley zra_Valley (fun _ => Or.inl rfl) (fun _ _ => rfl)
theorem zz_Mo3 : I_Mo (zpI zz 3 (-1)) := IS.pI 3 (-1) zz_Mo (tr _)
theorem INV0 : INV zz (zpI zz 3 (-1)) (zpI zz 1 (-1)) zz zz zz zz zz zz zz zz zz zz zz zz := by
  refine ⟨⟨zz_CH, zz_Mo3, zz_Valley, zz_Earnest, zz_Entries, fun i => Or.inr (show (0 : Int) ≤ (0 : Int32).toInt ∧ (0 : Int32).toInt ≤ 11 by decide), zz_Parting, zz_Valley, zz_Bounds, zz_Sets, zz_Creeps, zz_Dealer, zz_Earnest, zz_Earnest, zz_Earnest⟩, ⟨fun _ => 0, 0, by decide, fun _ => show 0 < 256 by decide, rfl, rfl, fun _ _ => show (0 : Int32) = sb_b 0 by decide, fun _ _ => rfl⟩, rfl, ⟨rfl, rfl⟩, ⟨0, 0, 0, 0, ⟨rfl, rfl, rfl, rfl, rfl⟩, ⟨rfl, rfl, rfl, rfl, fun i hi => absurd hi (by omega)⟩, ⟨by decide, by decide, by decide, by decide, by decide, by decide⟩, fun i hi => absurd hi (by omega), fun i hi => absurd hi (by omega), rfl, rfl, fun i hi => absurd hi (by omega)⟩, ⟨⟨rfl, rfl, rfl, rfl, rfl⟩, fun _ _ => rfl⟩, ⟨0, by decide, rfl⟩, ?_, ?_, ?_⟩
  all_goals exact ⟨⟨fun _ => rfl, fun _ => by decide⟩, fun q => absurd rfl q⟩
