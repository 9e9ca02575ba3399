/-! the whole -/
theorem oz_sz {s : Int} {q : Nat → Int} {I : Nat → Int → Int} : om_sz (om_O s q, I) ≤ 7302250 := by
  unfold om_sz om_O
  simp only [List.map_cons, List.map_nil, List.sum_cons, List.sum_nil]
  decide
theorem oz_ln {s : Int} {q : Nat → Int} : (om_O s q).length ≤ 600000 := by
  have e : (om_O s q).length = 118 := rfl
  rw [e]
  decide
theorem om_main (n : Nat) (xs : Nat → Int32) (hn : n ≤ 2561) : om_R (om_scr n xs) 60 0 0 [om_sc, om_un, om_un, om_un] [] ([], fun _ _ => 0) (fun v h' => v = some (om_i 1) ∧ h'.1.length ≤ 600000 ∧ om_sz h' ≤ 7302250) := by
  have e1 : (om_scr n xs).1 = (n : Int) := rfl
  have hsc : ∀ k, om_Z ((om_scr n xs).2 k) := fun k => by
    have a := Int32.le_toInt (xs k.toNat)
    have b := Int32.toInt_lt (xs k.toNat)
    show -2147483648 ≤ (xs k.toNat).toInt ∧ (xs k.toNat).toInt ≤ 2147483647
    omega
  refine lw_init (by rw [e1]; exact ⟨by omega, by omega⟩) (fun s hs => ?_)
  exact lw_loop hs (by rw [e1]; omega) hsc (fun q I => ⟨rfl, oz_ln, oz_sz⟩) 513 1 _ _ (by omega) (by rw [e1]; omega) oz_J0
