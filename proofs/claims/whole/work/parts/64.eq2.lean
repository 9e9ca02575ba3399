/-! the class's equations: elimination and solutions -/
theorem eq_elim_l {sc : Int × (Int → Int)} {d : Nat} {s : Int} {q : Nat → Int} {Q : Option om_V → om_H → Prop} {dd : Int} (hd : 0 ≤ dd ∧ dd ≤ 12) {W0 : Int → Int → Int} : ∀ (m k : Nat) (R : Int) (x : om_V) (I : Nat → Int → Int), (k : Int) + m = dd + 1 → on_el W0 (om_tb 25 14 (I 93)) (I 94) k R → (∀ I' R', (∀ b, b ≠ 93 → b ≠ 94 → I' b = I b) → on_el W0 (om_tb 25 14 (I' 93)) (I' 94) (dd + 1).toNat R' → Q (some (.inl R')) (om_O s q, I')) → om_R sc (d + 2) 71 4 [.inr (.inl 89), .inl dd, .inl R, .inl (k : Int), x] [] (om_O s q, I) Q := by
  intro m
  induction m with
  | zero =>
    intro k R x I h1 hE hq
    simp only [x_Eq_eliminate_4, x_Eq_eliminate_5, x_Eq_eliminate_6, x_Eq_eliminate_58, x_Eq_eliminate_59]
    rw [if_pos (by omega)]
    refine hq I R (fun _ _ _ => rfl) ?_
    have hk : k = (dd + 1).toNat := by omega
    rw [← hk]
    exact hE
  | succ m ih =>
    intro k R x I h1 hE hq
    have hR := hE.2.2.2.1
    have hb := on_pc_b (p := on_pv (I 94)) k
    simp only [x_Eq_eliminate_4, x_Eq_eliminate_5, x_Eq_eliminate_6]
    rw [if_neg (by omega)]
    simp only [x_Eq_eliminate_9, x_Eq_eliminate_10, x_Eq_eliminate_11, x_Eq_eliminate_12, rO_89, Option.toList_some, Option.toList_none, List.cons_append, List.nil_append, List.length_cons, List.length_nil, Nat.reduceAdd, Nat.zero_add, Nat.reduceLeDiff, true_and]
    refine eq_findPivot (by omega) rfl (fun r r1 r2 hn => ?_) (fun hz => ?_)
    · simp only [x_Eq_eliminate_15, x_Eq_eliminate_17, x_Eq_eliminate_18, x_Eq_eliminate_21, x_Eq_eliminate_22, x_Eq_eliminate_23, x_Eq_eliminate_24, x_Eq_eliminate_26, gO_89_3, aO_94, Option.toList_some, Option.toList_none, List.cons_append, List.nil_append, List.length_cons, List.length_nil, Nat.reduceAdd, Nat.zero_add, Nat.reduceLeDiff, true_and]
      refine ⟨⟨by omega, by omega⟩, ?_⟩
      rw [if_neg (by omega)]
      simp only [x_Eq_eliminate_29, x_Eq_eliminate_30, x_Eq_eliminate_32, x_Eq_eliminate_33, rO_89, Option.toList_some, Option.toList_none, List.cons_append, List.nil_append, List.length_cons, List.length_nil, Nat.reduceAdd, Nat.zero_add, Nat.reduceLeDiff, true_and]
      have e1 : om_tb 25 14 (om_u I 94 (om_p (I 94) k (-1)) 93) = om_tb 25 14 (I 93) := by rw [om_u_ne (by decide)]
      refine eq_swapRows (by omega) (by omega) (W := om_tb 25 14 (I 93)) hE.1 hE.2.1 e1 (fun I2 f1 f2 => ?_)
      simp only [x_Eq_eliminate_36, x_Eq_eliminate_37, x_Eq_eliminate_38, x_Eq_eliminate_39, rO_89, Option.toList_some, Option.toList_none, List.cons_append, List.nil_append, List.length_cons, List.length_nil, Nat.reduceAdd, Nat.zero_add, Nat.reduceLeDiff, true_and]
      refine eq_clearColumn (by omega) (on_swp_r hE.1) (on_swp_su (by omega) (by omega) hE.2.1) f2 (fun I3 f3 f4 => ?_)
      have e94 : I3 94 = om_p (I 94) k (-1) := by rw [f3 94 (by decide), f1 94 (by decide), om_u_eq]
      simp only [x_Eq_eliminate_42, x_Eq_eliminate_43, x_Eq_eliminate_46, x_Eq_eliminate_47, x_Eq_eliminate_48, gO_89_3, aO_94, Option.toList_some, Option.toList_none, List.cons_append, List.nil_append, List.length_cons, List.length_nil, Nat.reduceAdd, Nat.zero_add, Nat.reduceLeDiff, true_and]
      refine ⟨⟨by omega, by omega⟩, ?_⟩
      simp only [x_Eq_eliminate_49, x_Eq_eliminate_52, x_Eq_eliminate_55, Option.toList_some, Option.toList_none, List.cons_append, List.nil_append, List.length_cons, List.length_nil, Nat.reduceAdd, Nat.zero_add, Nat.reduceLeDiff, true_and]
      refine ⟨⟨by omega, by omega⟩, ⟨by omega, by omega⟩, ?_⟩
      have hE2 := on_el_s hE (by omega) ⟨r1, r2⟩ hn (x := -1)
      have h := ih (k + 1) (R + 1) (.inl r) (om_u I3 94 (om_p (I3 94) k R)) (by omega) (by rw [om_u_eq, om_u_ne (by decide), f4, e94]; exact hE2) (fun I' R' f5 f6 => hq I' R' (fun b b1 b2 => by rw [f5 b b1 b2, om_u_ne b2, f3 b b1, f1 b b1, om_u_ne b2]) f6)
      simpa using h
    · simp only [x_Eq_eliminate_15, x_Eq_eliminate_17, x_Eq_eliminate_18, x_Eq_eliminate_21, x_Eq_eliminate_22, x_Eq_eliminate_23, x_Eq_eliminate_24, x_Eq_eliminate_26, gO_89_3, aO_94, Option.toList_some, Option.toList_none, List.cons_append, List.nil_append, List.length_cons, List.length_nil, Nat.reduceAdd, Nat.zero_add, Nat.reduceLeDiff, true_and]
      refine ⟨⟨by omega, by omega⟩, ?_⟩
      rw [if_pos (by decide)]
      simp only [x_Eq_eliminate_52, x_Eq_eliminate_55, Option.toList_some, Option.toList_none, List.cons_append, List.nil_append, List.length_cons, List.length_nil, Nat.reduceAdd, Nat.zero_add, Nat.reduceLeDiff, true_and]
      refine ⟨⟨by omega, by omega⟩, ?_⟩
      have hE2 := on_el_n hE hz
      have h := ih (k + 1) R (.inl (-1)) (om_u I 94 (om_p (I 94) k (-1))) (by omega) (by rw [om_u_eq, om_u_ne (by decide)]; exact hE2) (fun I' R' f5 f6 => hq I' R' (fun b b1 b2 => by rw [f5 b b1 b2, om_u_ne b2]) f6)
      simpa using h
theorem eq_eliminate {sc : Int × (Int → Int)} {d : Nat} {s : Int} {q : Nat → Int} {I : Nat → Int → Int} {Q : Option om_V → om_H → Prop} {dd : Int} (hd : 0 ≤ dd ∧ dd ≤ 12) {W0 : Int → Int → Int} (hW : om_tb 25 14 (I 93) = W0) (rW : om_r31 W0) (suW : om_su 25 14 W0) (hq : ∀ I' R', (∀ b, b ≠ 93 → b ≠ 94 → I' b = I b) → on_el W0 (om_tb 25 14 (I' 93)) (I' 94) (dd + 1).toNat R' → Q (some (.inl R')) (om_O s q, I')) : om_R sc (d + 2) 71 0 [.inr (.inl 89), .inl dd, om_un, om_un, om_un] [] (om_O s q, I) Q := by
  simp only [x_Eq_eliminate_0, x_Eq_eliminate_1, x_Eq_eliminate_2, x_Eq_eliminate_3]
  have h := eq_elim_l (sc := sc) (d := d) (s := s) (q := q) (Q := Q) hd (W0 := W0) (dd + 1).toNat 0 0 om_un I (by omega) (by
    rw [hW]
    exact ⟨rW, suW, fun _ => Iff.rfl, rfl, fun j hj => absurd hj (by omega)⟩) hq
  simpa using h
theorem eq_writePivots_l {sc : Int × (Int → Int)} {d : Nat} {s : Int} {q : Nat → Int} {Q : Option om_V → om_H → Prop} {sol col t dd : Int} (hsol : 0 ≤ sol ∧ sol < 14) (ht : t = 1 ∨ t = -1) (hd : 0 ≤ dd ∧ dd ≤ 12) {W X : Int → Int → Int} {pv : Int → Int} (rW : om_r31 W) : ∀ (m : Nat) (k : Int) (I : Nat → Int → Int), k + m = dd + 1 → 0 ≤ k → om_tb 25 14 (I 93) = W → I 94 = pv → (∀ i' k', om_tb 14 13 (I 96) i' k' = if i' = sol ∧ (0 ≤ k' ∧ k' < k) ∧ 0 ≤ pv k' then (t * W (pv k') col) % 31 else X i' k') → (∀ I', (∀ b, b ≠ 96 → I' b = I b) → (∀ i' k', om_tb 14 13 (I' 96) i' k' = if i' = sol ∧ (0 ≤ k' ∧ k' ≤ dd) ∧ 0 ≤ pv k' then (t * W (pv k') col) % 31 else X i' k') → Q none (om_O s q, I')) → om_R sc (d + 1) 76 3 [.inr (.inl 89), .inl sol, .inl col, .inl t, .inl dd, .inl k] [] (om_O s q, I) Q := by
  have gm := om_op_g (oO_92 (s := s) (q := q))
  have gf := om_op_g (oO_95 (s := s) (q := q))
  intro m
  induction m with
  | zero =>
    intro k I h1 h2 hW hp hI hq
    simp only [x_Eq_writePivots_3, x_Eq_writePivots_5, x_Eq_writePivots_7, x_Eq_writePivots_53]
    rw [if_pos (by omega)]
    refine hq I (fun _ _ => rfl) (fun i' k' => ?_)
    rw [hI i' k']
    by_cases hc : i' = sol ∧ (0 ≤ k' ∧ k' < k) ∧ 0 ≤ pv k'
    · rw [if_pos hc, if_pos (by omega)]
    · rw [if_neg hc, if_neg (by omega)]
  | succ m ih =>
    intro k I h1 h2 hW hp hI hq
    simp only [x_Eq_writePivots_3, x_Eq_writePivots_5, x_Eq_writePivots_7]
    rw [if_neg (by omega)]
    simp only [x_Eq_writePivots_10, x_Eq_writePivots_11, x_Eq_writePivots_14, x_Eq_writePivots_16, x_Eq_writePivots_17, gO_89_3, aO_94, Option.toList_some, Option.toList_none, List.cons_append, List.nil_append, List.length_cons, List.length_nil, Nat.reduceAdd, Nat.zero_add, Nat.reduceLeDiff, true_and]
    refine ⟨by omega, ?_⟩
    rw [hp]
    have next : ∀ I1, (∀ b, b ≠ 96 → I1 b = I b) → (∀ i' k', om_tb 14 13 (I1 96) i' k' = if i' = sol ∧ (0 ≤ k' ∧ k' < k + 1) ∧ 0 ≤ pv k' then (t * W (pv k') col) % 31 else X i' k') → om_R sc (d + 1) 76 47 [.inr (.inl 89), .inl sol, .inl col, .inl t, .inl dd, .inl k] [] (om_O s q, I1) Q := by
      intro I1 f1 f2
      simp only [x_Eq_writePivots_47, x_Eq_writePivots_50, Option.toList_some, Option.toList_none, List.cons_append, List.nil_append, List.length_cons, List.length_nil, Nat.reduceAdd, Nat.zero_add, Nat.reduceLeDiff, true_and]
      exact ⟨⟨by omega, by omega⟩, ih _ I1 (by omega) (by omega) (by rw [f1 93 (by decide)]; exact hW) (by rw [f1 94 (by decide)]; exact hp) f2 (fun I' f3 f4 => hq I' (fun b hb => by rw [f3 b hb, f1 b hb]) f4)⟩
    by_cases hpk : pv k < 0
    · rw [if_pos hpk]
      refine next I (fun _ _ => rfl) (fun i' k' => ?_)
      rw [hI i' k']
      by_cases hkk : k' = k
      · subst hkk
        rw [if_neg (by omega), if_neg (by omega)]
      · by_cases hc : i' = sol ∧ (0 ≤ k' ∧ k' < k) ∧ 0 ≤ pv k'
        · rw [if_pos hc, if_pos (by omega)]
        · rw [if_neg hc, if_neg (by omega)]
    · rw [if_neg hpk]
      simp only [x_Eq_writePivots_20, x_Eq_writePivots_21, x_Eq_writePivots_24, x_Eq_writePivots_25, x_Eq_writePivots_27, x_Eq_writePivots_28, x_Eq_writePivots_29, x_Eq_writePivots_32, x_Eq_writePivots_33, x_Eq_writePivots_36, x_Eq_writePivots_38, x_Eq_writePivots_39, x_Eq_writePivots_40, gO_89_2, gO_89_3, gO_89_4, aO_94, gm.2.2.2, Option.toList_some, Option.toList_none, List.cons_append, List.nil_append, List.length_cons, List.length_nil, Nat.reduceAdd, Nat.zero_add, Nat.reduceLeDiff, true_and]
      refine ⟨by omega, ?_⟩
      rw [hp]
      refine op_get oO_92 ?_
      rw [hW]
      have rw1 := rW (pv k) col
      simp only [x_Eq_writePivots_43, x_Eq_writePivots_44, gf.2.2.2, Option.toList_some, Option.toList_none, List.cons_append, List.nil_append, List.length_cons, List.length_nil, Nat.reduceAdd, Nat.zero_add, Nat.reduceLeDiff, true_and]
      refine ⟨by rcases ht with h | h <;> rw [h] <;> omega, op_put oO_95 (fun I1 f1 f2 => next I1 f1 (fun i' k' => ?_))⟩
      rw [f2 i' k', hI i' k']
      by_cases hc : i' = sol ∧ k' = k
      · rw [if_pos ⟨hc, by omega⟩, hc.2, if_pos (by omega)]
      · rw [if_neg (fun z => hc z.1)]
        by_cases hc2 : i' = sol ∧ (0 ≤ k' ∧ k' < k) ∧ 0 ≤ pv k'
        · rw [if_pos hc2, if_pos (by omega)]
        · rw [if_neg hc2, if_neg (by omega)]
theorem eq_writePivots {sc : Int × (Int → Int)} {d : Nat} {s : Int} {q : Nat → Int} {I : Nat → Int → Int} {Q : Option om_V → om_H → Prop} {sol col t dd : Int} (hsol : 0 ≤ sol ∧ sol < 14) (ht : t = 1 ∨ t = -1) (hd : 0 ≤ dd ∧ dd ≤ 12) {W X : Int → Int → Int} {pv : Int → Int} (rW : om_r31 W) (hW : om_tb 25 14 (I 93) = W) (hp : I 94 = pv) (hX : om_tb 14 13 (I 96) = X) (hq : ∀ I', (∀ b, b ≠ 96 → I' b = I b) → (∀ i' k', om_tb 14 13 (I' 96) i' k' = if i' = sol ∧ (0 ≤ k' ∧ k' ≤ dd) ∧ 0 ≤ pv k' then (t * W (pv k') col) % 31 else X i' k') → Q none (om_O s q, I')) : om_R sc (d + 1) 76 0 [.inr (.inl 89), .inl sol, .inl col, .inl t, .inl dd, om_un] [] (om_O s q, I) Q := by
  simp only [x_Eq_writePivots_0, x_Eq_writePivots_1]
  exact eq_writePivots_l hsol ht hd rW (dd + 1).toNat 0 I (by omega) (by omega) hW hp (fun i' k' => by rw [hX, if_neg (by omega)]) hq
theorem on_qs2 {q : Nat → Int} {n : Nat} {a b : Int} : om_qs (om_qs q n a) n b = om_qs q n b := by
  funext m
  unfold om_qs
  by_cases h : m = n
  · rw [if_pos h, if_pos h]
  · rw [if_neg h, if_neg h, if_neg h]
def on_fr (pv : Int → Int) (k : Int) : Bool := !on_pv pv k
/-- rows of solutions written so far -/
def on_ws (W : Int → Int → Int) (pv : Int → Int) (dd : Int) (k : Nat) (X : Int → Int → Int) : Prop := (∀ k', X 0 k' = if (0 ≤ k' ∧ k' ≤ dd) ∧ 0 ≤ pv k' then W (pv k') 13 else 0) ∧ (∀ j : Nat, j < k → pv j < 0 → ∀ k', X (on_pc (on_fr pv) j + 1) k' = if k' = j then 1 else if (0 ≤ k' ∧ k' ≤ dd) ∧ 0 ≤ pv k' then (- W (pv k') j) % 31 else 0) ∧ (∀ i k', on_pc (on_fr pv) k < i → X i k' = 0) ∧ om_r31 X
theorem eq_ws_l {sc : Int × (Int → Int)} {d : Nat} {s : Int} {q : Nat → Int} {Q : Option om_V → om_H → Prop} {dd : Int} (hd : 0 ≤ dd ∧ dd ≤ 12) {W : Int → Int → Int} {pv : Int → Int} (rW : om_r31 W) : ∀ (m k : Nat) (I : Nat → Int → Int), (k : Int) + m = dd + 1 → om_tb 25 14 (I 93) = W → I 94 = pv → on_ws W pv dd k (om_tb 14 13 (I 96)) → (∀ I', (∀ b, b ≠ 96 → I' b = I b) → on_ws W pv dd (dd + 1).toNat (om_tb 14 13 (I' 96)) → Q none (om_O s (om_qs q 5 (on_pc (on_fr pv) (dd + 1).toNat)), I')) → om_R sc (d + 2) 75 23 [.inr (.inl 89), .inl dd, .inl (k : Int)] [] (om_O s (om_qs q 5 (on_pc (on_fr pv) k)), I) Q := by
  intro m
  induction m with
  | zero =>
    intro k I h1 hW hp hX hq
    simp only [x_Eq_writeSolutions_23, x_Eq_writeSolutions_24, x_Eq_writeSolutions_25, x_Eq_writeSolutions_77]
    rw [if_pos (by omega)]
    have hk : k = (dd + 1).toNat := by omega
    rw [hk] at hX ⊢
    exact hq I (fun _ _ => rfl) hX
  | succ m ih =>
    intro k I h1 hW hp hX hq
    have cb := on_pc_b (p := on_fr pv) k
    simp only [x_Eq_writeSolutions_23, x_Eq_writeSolutions_24, x_Eq_writeSolutions_25]
    rw [if_neg (by omega)]
    simp only [x_Eq_writeSolutions_28, x_Eq_writeSolutions_29, x_Eq_writeSolutions_32, x_Eq_writeSolutions_33, x_Eq_writeSolutions_34, gO_89_3, aO_94, Option.toList_some, Option.toList_none, List.cons_append, List.nil_append, List.length_cons, List.length_nil, Nat.reduceAdd, Nat.zero_add, Nat.reduceLeDiff, true_and]
    refine ⟨by omega, ?_⟩
    rw [hp]
    have e1 : on_pc (on_fr pv) (k + 1) = on_pc (on_fr pv) k + (if on_fr pv k then 1 else 0) := rfl
    by_cases hpk : 0 ≤ pv k
    · rw [if_pos hpk]
      have hf : on_fr pv k = false := by
        unfold on_fr on_pv
        rw [decide_eq_true hpk]
        rfl
      rw [hf] at e1
      simp only [Bool.false_eq_true, if_false, Int.add_zero] at e1
      simp only [x_Eq_writeSolutions_71, x_Eq_writeSolutions_74, Option.toList_some, Option.toList_none, List.cons_append, List.nil_append, List.length_cons, List.length_nil, Nat.reduceAdd, Nat.zero_add, Nat.reduceLeDiff, true_and]
      refine ⟨⟨by omega, by omega⟩, ?_⟩
      have h := ih (k + 1) I (by omega) hW hp ⟨hX.1, fun j hj hpj => by
        by_cases e : j = k
        · rw [e] at hpj; omega
        · exact hX.2.1 j (by omega) hpj, fun i k' hi => hX.2.2.1 i k' (by omega), hX.2.2.2⟩ hq
      rw [e1] at h
      simpa using h
    · rw [if_neg hpk]
      have hf : on_fr pv k = true := by
        unfold on_fr on_pv
        rw [decide_eq_false hpk]
        rfl
      rw [hf] at e1
      simp only [if_true] at e1
      have gf := fun {q' : Nat → Int} => om_op_g (oO_95 (s := s) (q := q'))
      simp only [x_Eq_writeSolutions_37, x_Eq_writeSolutions_38, x_Eq_writeSolutions_39, x_Eq_writeSolutions_42, x_Eq_writeSolutions_43, x_Eq_writeSolutions_44, x_Eq_writeSolutions_47, x_Eq_writeSolutions_48, x_Eq_writeSolutions_49, x_Eq_writeSolutions_52, x_Eq_writeSolutions_53, x_Eq_writeSolutions_54, x_Eq_writeSolutions_55, gO_89_5, om_qs_eq, Option.toList_some, Option.toList_none, List.cons_append, List.nil_append, List.length_cons, List.length_nil, Nat.reduceAdd, Nat.zero_add, Nat.reduceLeDiff, true_and, pO_89_5 75 (on_pc (on_fr pv) k + 1) rfl, on_qs2, rO_89]
      refine ⟨⟨by omega, by omega⟩, ?_⟩
      refine eq_writePivots (by omega) (Or.inr rfl) hd rW hW hp rfl (fun I1 f1 f2 => ?_)
      simp only [x_Eq_writeSolutions_58, x_Eq_writeSolutions_59, x_Eq_writeSolutions_62, x_Eq_writeSolutions_63, x_Eq_writeSolutions_66, x_Eq_writeSolutions_67, x_Eq_writeSolutions_68, gO_89_4, gO_89_5, om_qs_eq, gf.2.2.2, Option.toList_some, Option.toList_none, List.cons_append, List.nil_append, List.length_cons, List.length_nil, Nat.reduceAdd, Nat.zero_add, Nat.reduceLeDiff, true_and]
      refine op_put oO_95 (fun I2 f3 f4 => ?_)
      simp only [x_Eq_writeSolutions_71, x_Eq_writeSolutions_74, Option.toList_some, Option.toList_none, List.cons_append, List.nil_append, List.length_cons, List.length_nil, Nat.reduceAdd, Nat.zero_add, Nat.reduceLeDiff, true_and]
      refine ⟨⟨by omega, by omega⟩, ?_⟩
      have ex : ∀ i' k', om_tb 14 13 (I2 96) i' k' = if i' = on_pc (on_fr pv) k + 1 then (if k' = (k : Int) then 1 else if (0 ≤ k' ∧ k' ≤ dd) ∧ 0 ≤ pv k' then (- W (pv k') k) % 31 else 0) else om_tb 14 13 (I 96) i' k' := by
        intro i' k'
        rw [f4 i' k', f2 i' k']
        by_cases hi : i' = on_pc (on_fr pv) k + 1
        · rw [if_pos hi]
          by_cases hk : k' = (k : Int)
          · rw [if_pos ⟨⟨hi, hk⟩, by omega⟩, if_pos hk]
            rfl
          · rw [if_neg (fun z => hk z.1.2), if_neg hk]
            by_cases hc : (0 ≤ k' ∧ k' ≤ dd) ∧ 0 ≤ pv k'
            · rw [if_pos ⟨hi, hc⟩, if_pos hc]
              congr 1
              omega
            · rw [if_neg (fun z => hc z.2), if_neg hc, hi]
              exact hX.2.2.1 _ k' (by omega)
        · rw [if_neg (fun z => hi z.1.1), if_neg (fun z => hi z.1), if_neg hi]
      have h := ih (k + 1) I2 (by omega) (by rw [f3 93 (by decide), f1 93 (by decide)]; exact hW) (by rw [f3 94 (by decide), f1 94 (by decide)]; exact hp) ⟨fun k' => by rw [ex 0 k', if_neg (by omega)]; exact hX.1 k', fun j hj hpj k' => by
        by_cases e : j = k
        · rw [e, ex _ k', if_pos rfl]
        · have hfj : on_fr pv j = true := by
            unfold on_fr on_pv
            rw [decide_eq_false (by omega)]
            rfl
          have := on_pc_lt (p := on_fr pv) (show j < k by omega) hfj
          rw [ex _ k', if_neg (by omega)]
          exact hX.2.1 j (by omega) hpj k', fun i k' hi => by rw [ex i k', if_neg (by omega)]; exact hX.2.2.1 i k' (by omega), fun i k' => by
        rw [ex i k']
        split
        · split
          · omega
          · split <;> omega
        · exact hX.2.2.2 i k'⟩ (fun I' f5 f6 => hq I' (fun b hb => by rw [f5 b hb, f3 b hb, f1 b hb]) f6)
      rw [e1] at h
      simpa using h
theorem eq_writeSolutions {sc : Int × (Int → Int)} {d : Nat} {s : Int} {q : Nat → Int} {I : Nat → Int → Int} {Q : Option om_V → om_H → Prop} {dd : Int} (hd : 0 ≤ dd ∧ dd ≤ 12) {W : Int → Int → Int} {pv : Int → Int} (rW : om_r31 W) (hW : om_tb 25 14 (I 93) = W) (hp : I 94 = pv) (hq : ∀ I', (∀ b, b ≠ 96 → I' b = I b) → on_ws W pv dd (dd + 1).toNat (om_tb 14 13 (I' 96)) → Q none (om_O s (om_qs q 5 (on_pc (on_fr pv) (dd + 1).toNat)), I')) : om_R sc (d + 2) 75 0 [.inr (.inl 89), .inl dd, om_un] [] (om_O s q, I) Q := by
  have gf := fun {q' : Nat → Int} => om_op_g (oO_95 (s := s) (q := q'))
  simp only [x_Eq_writeSolutions_0, x_Eq_writeSolutions_1, x_Eq_writeSolutions_4, gO_89_4, gf.2.2.2, Option.toList_some, Option.toList_none, List.cons_append, List.nil_append, List.length_cons, List.length_nil, Nat.reduceAdd, Nat.zero_add, Nat.reduceLeDiff, true_and]
  refine op_wipe oO_95 (fun I1 f1 f2 => ?_)
  simp only [x_Eq_writeSolutions_7, x_Eq_writeSolutions_8, x_Eq_writeSolutions_9, x_Eq_writeSolutions_12, x_Eq_writeSolutions_13, x_Eq_writeSolutions_14, x_Eq_writeSolutions_16, x_Eq_writeSolutions_17, x_Eq_writeSolutions_18, Option.toList_some, Option.toList_none, List.cons_append, List.nil_append, List.length_cons, List.length_nil, Nat.reduceAdd, Nat.zero_add, Nat.reduceLeDiff, true_and, pO_89_5 75 0 rfl, rO_89]
  refine eq_writePivots (pv := pv) (by decide) (Or.inl rfl) hd rW (by rw [f1 93 (by decide)]; exact hW) (by rw [f1 94 (by decide)]; exact hp) rfl (fun I2 f3 f4 => ?_)
  simp only [x_Eq_writeSolutions_21, x_Eq_writeSolutions_22, Option.toList_some, Option.toList_none, List.cons_append, List.nil_append, List.length_cons, List.length_nil, Nat.reduceAdd, Nat.zero_add, Nat.reduceLeDiff, true_and]
  rw [f2] at f4
  have h := eq_ws_l (sc := sc) (d := d) (s := s) (q := q) (Q := Q) hd rW (pv := pv) (dd + 1).toNat 0 I2 (by omega) (by rw [f3 93 (by decide), f1 93 (by decide)]; exact hW) (by rw [f3 94 (by decide), f1 94 (by decide)]; exact hp) ⟨fun k' => ?_, fun j hj => absurd hj (by omega), fun i k' hi => ?_, fun i k' => ?_⟩ (fun I' f5 f6 => hq I' (fun b hb => by rw [f5 b hb, f3 b hb, f1 b hb]) f6)
  · have e0 : on_pc (on_fr pv) 0 = 0 := rfl
    rw [e0] at h
    simpa using h
  · rw [f4 0 k']
    by_cases hc : (0 ≤ k' ∧ k' ≤ dd) ∧ 0 ≤ pv k'
    · rw [if_pos ⟨rfl, hc⟩, if_pos hc, Int.one_mul]
      have := rW (pv k') 13
      omega
    · rw [if_neg (fun z => hc z.2), if_neg hc]
  · have : on_pc (on_fr pv) 0 = 0 := rfl
    rw [f4 i k', if_neg (by omega)]
  · rw [f4 i k']
    split
    · omega
    · exact (by decide : (0 : Int) ≤ 0 ∧ (0 : Int) < 31)
theorem eq_fs_l {sc : Int × (Int → Int)} {d : Nat} {s : Int} {q : Nat → Int} {Q : Option om_V → om_H → Prop} {a g : Nat} {dd R : Int} (hR : 0 ≤ R) {W : Int → Int → Int} (K : (Nat → Int → Int) → Prop) {I : Nat → Int → Int} (hW : om_tb 25 14 (I 93) = W) (hK : (∀ r, R ≤ r → r < 25 → W r 13 = 0) → om_R sc (d + 1) 69 52 [.inr (.inl 89), .inr (.inl a), .inr (.inl g), .inl dd, .inl R, .inl 25] [] (om_O s q, I) Q) (hn : ∀ r, R ≤ r → r < 25 → W r 13 ≠ 0 → Q (some (.inl 0)) (om_O s q, I)) : ∀ (m : Nat) (r : Int), r + m = 25 → R ≤ r → (∀ r', R ≤ r' → r' < r → W r' 13 = 0) → om_R sc (d + 1) 69 18 [.inr (.inl 89), .inr (.inl a), .inr (.inl g), .inl dd, .inl R, .inl r] [] (om_O s q, I) Q := by
  have gm := om_op_g (oO_92 (s := s) (q := q))
  intro m
  induction m with
  | zero =>
    intro r e1 e2 hz
    simp only [x_Eq_findSolutions_18, x_Eq_findSolutions_20, x_Eq_findSolutions_21, x_Eq_findSolutions_24, x_Eq_findSolutions_27, gO_89_2, gm.1]
    rw [if_pos (by omega)]
    have hr : r = 25 := by omega
    subst hr
    exact hK hz
  | succ m ih =>
    intro r e1 e2 hz
    simp only [x_Eq_findSolutions_18, x_Eq_findSolutions_20, x_Eq_findSolutions_21, x_Eq_findSolutions_24, x_Eq_findSolutions_27, gO_89_2, gm.1]
    rw [if_neg (by omega)]
    simp only [x_Eq_findSolutions_30, x_Eq_findSolutions_31, x_Eq_findSolutions_34, x_Eq_findSolutions_36, x_Eq_findSolutions_38, gO_89_2, gm.2.2.2, Option.toList_some, Option.toList_none, List.cons_append, List.nil_append, List.length_cons, List.length_nil, Nat.reduceAdd, Nat.zero_add, Nat.reduceLeDiff, true_and]
    refine op_get oO_92 ?_
    rw [hW]
    simp only [x_Eq_findSolutions_41, x_Eq_findSolutions_44, x_Eq_findSolutions_45, x_Eq_findSolutions_46, x_Eq_findSolutions_49, Option.toList_some, Option.toList_none, List.cons_append, List.nil_append, List.length_cons, List.length_nil, Nat.reduceAdd, Nat.zero_add, Nat.reduceLeDiff, true_and]
    by_cases h0 : W r 13 = 0
    · rw [if_pos h0]
      refine ⟨⟨by omega, by omega⟩, ih _ (by omega) (by omega) (fun r' a b => ?_)⟩
      by_cases h : r' = r
      · rw [h]; exact h0
      · exact hz r' a (by omega)
    · rw [if_neg h0]
      exact ⟨by decide, hn r e2 (by omega) h0⟩
theorem eq_findSolutions {sc : Int × (Int → Int)} {d : Nat} {s : Int} {q : Nat → Int} {I : Nat → Int → Int} {Q : Option om_V → om_H → Prop} {a g ca cg : Nat} {dd : Int} (hs : s = 0 ∨ s = 1) (ha : om_op (om_O s q) a ca 5 13) (na : ca < 20) (hg : om_op (om_O s q) g cg 5 13) (ng : cg < 20) (hd : 0 ≤ dd ∧ dd ≤ 12) {A B : Int → Int → Int} (rA : om_r31 A) (suA : om_su 5 13 A) (rB : om_r31 B) (suB : om_su 5 13 B) (hA : om_tb 5 13 (I ca) = A) (hB : om_tb 5 13 (I cg) = B) (h0 : on_nos (on_M s A) (B 0) dd → ∀ I', on_fe I I' → Q (some (.inl 0)) (om_O s q, I')) (h1 : ∀ I' D, (∀ b, b ≠ 22 → b ≠ 24 → b < 90 ∨ 96 < b → I' b = I b) → on_sol (on_M s A) (B 0) dd D (om_tb 14 13 (I' 96)) → om_r31 (om_tb 14 13 (I' 96)) → Q (some (.inl 1)) (om_O s (om_qs q 5 D), I')) : om_R sc (d + 5) 69 0 [.inr (.inl 89), .inr (.inl a), .inr (.inl g), .inl dd, om_un, om_un] [] (om_O s q, I) Q := by
  simp only [x_Eq_findSolutions_0, x_Eq_findSolutions_1, x_Eq_findSolutions_2, x_Eq_findSolutions_3, x_Eq_findSolutions_4, rO_89, Option.toList_some, Option.toList_none, List.cons_append, List.nil_append, List.length_cons, List.length_nil, Nat.reduceAdd, Nat.zero_add, Nat.reduceLeDiff, true_and]
  refine eq_setUp hs ha na hg ng hd rA suA rB suB hA hB (fun I1 f1 f2 => ?_)
  simp only [x_Eq_findSolutions_7, x_Eq_findSolutions_8, x_Eq_findSolutions_9, rO_89, Option.toList_some, Option.toList_none, List.cons_append, List.nil_append, List.length_cons, List.length_nil, Nat.reduceAdd, Nat.zero_add, Nat.reduceLeDiff, true_and]
  have rW0 : om_r31 (on_W0 (on_M s A) (B 0) dd) := by rw [← f2]; intro r k; rw [f2]; unfold on_W0; split
                                                      · split
                                                        · exact on_M_r r k
                                                        · split
                                                          · exact rB 0 r
                                                          · omega
                                                      · omega
  refine eq_eliminate hd f2 rW0 (by rw [← f2]; exact om_tb_su) (fun I2 R f3 hE => ?_)
  have fe2 : on_fe I I2 := on_fe_tr f1 (fun b b1 b2 b3 => f3 b (by omega) (by omega))
  have hR := hE.2.2.2.1
  have hb := on_pc_b (p := on_pv (I2 94)) (dd + 1).toNat
  simp only [x_Eq_findSolutions_12, x_Eq_findSolutions_14, x_Eq_findSolutions_16, Option.toList_some, Option.toList_none, List.cons_append, List.nil_append, List.length_cons, List.length_nil, Nat.reduceAdd, Nat.zero_add, Nat.reduceLeDiff, true_and]
  refine eq_fs_l (d := d + 4) (R := R) (by omega) (fun _ => True) (W := om_tb 25 14 (I2 93)) rfl (fun hz => ?_) (fun r r1 r2 hn => h0 (on_el_nos hd hE ⟨r1, r2⟩ hn) I2 fe2) (25 - R).toNat R (by omega) (Int.le_refl _) (fun r' a b => by omega)
  simp only [x_Eq_findSolutions_52, x_Eq_findSolutions_53, x_Eq_findSolutions_54, rO_89, Option.toList_some, Option.toList_none, List.cons_append, List.nil_append, List.length_cons, List.length_nil, Nat.reduceAdd, Nat.zero_add, Nat.reduceLeDiff, true_and]
  refine eq_writeSolutions hd hE.1 rfl rfl (fun I3 f4 f5 => ?_)
  simp only [x_Eq_findSolutions_57, x_Eq_findSolutions_58, Option.toList_some, Option.toList_none, List.cons_append, List.nil_append, List.length_cons, List.length_nil, Nat.reduceAdd, Nat.zero_add, Nat.reduceLeDiff, true_and]
  refine ⟨by decide, h1 I3 _ (fun b b1 b2 b3 => by rw [f4 b (by omega), fe2 b b1 b2 (by omega)]) (on_el_sol hd hE hz f5.1 (fun j jd hp => f5.2.1 j (by omega) hp) rfl f5.2.2.2) f5.2.2.2⟩
theorem or_solve {sc : Int × (Int → Int)} {d : Nat} {s : Int} {q : Nat → Int} {I : Nat → Int → Int} {Q : Option om_V → om_H → Prop} {a g dd : Int} (hs : s = 0 ∨ s = 1) (rA : ∀ r, 0 ≤ r → r < 8 → om_r31 (om_cr I r)) (h0 : ¬ ((0 ≤ a ∧ a < 8) ∧ (0 ≤ g ∧ g < 8) ∧ 0 ≤ dd ∧ dd ≤ 12) → Q (some (.inl (-1))) (om_O s q, I)) (h5 : (0 ≤ a ∧ a < 8) ∧ (0 ≤ g ∧ g < 8) ∧ 0 ≤ dd ∧ dd ≤ 12 → 0 < om_or 5 13 (om_cr I g) → Q (some (.inl (-5))) (om_O s q, I)) (hn : (0 ≤ a ∧ a < 8) ∧ (0 ≤ g ∧ g < 8) ∧ 0 ≤ dd ∧ dd ≤ 12 → om_or 5 13 (om_cr I g) ≤ 0 → on_nos (on_M s (om_cr I a)) (om_cr I g 0) dd → ∀ I', on_fe I I' → Q (some (.inl (-4))) (om_O s q, I')) (h1 : (0 ≤ a ∧ a < 8) ∧ (0 ≤ g ∧ g < 8) ∧ 0 ≤ dd ∧ dd ≤ 12 → om_or 5 13 (om_cr I g) ≤ 0 → ∀ I' D, (∀ b, b ≠ 22 → b ≠ 24 → b < 90 ∨ 96 < b → I' b = I b) → on_sol (on_M s (om_cr I a)) (om_cr I g 0) dd D (om_tb 14 13 (I' 96)) → om_r31 (om_tb 14 13 (I' 96)) → Q (some (.inl D)) (om_O s (om_qs q 5 D), I')) : om_R sc (d + 6) 68 0 [.inr (.inl 0), .inl a, .inl g, .inl dd] [] (om_O s q, I) Q := by
  have n10 : ¬ (1 : Int) = 0 := by decide
  simp only [x_Or_solve_0, x_Or_solve_1, Option.toList_some, Option.toList_none, List.cons_append, List.nil_append, List.length_cons, List.length_nil, Nat.reduceAdd, Nat.zero_add, Nat.reduceLeDiff, true_and]
  refine or_isRegister (fun r1 => ?_) (fun r1 => ?_)
  · simp only [x_Or_solve_4, x_Or_solve_7, x_Or_solve_8, Option.toList_some, Option.toList_none, List.cons_append, List.nil_append, List.length_cons, List.length_nil, Nat.reduceAdd, Nat.zero_add, Nat.reduceLeDiff, true_and, if_neg n10]
    refine or_isRegister (fun r2 => ?_) (fun r2 => ?_)
    · simp only [x_Or_solve_11, x_Or_solve_14, x_Or_solve_15, x_Or_solve_17, Option.toList_some, Option.toList_none, List.cons_append, List.nil_append, List.length_cons, List.length_nil, Nat.reduceAdd, Nat.zero_add, Nat.reduceLeDiff, true_and, if_neg n10]
      refine or_isWithin (fun r3 => ?_) (fun r3 => ?_)
      · have hc := And.intro r1 (And.intro r2 r3)
        have gg := (om_op_g (or_reg (s := s) (q := q) r2)).2.2.2
        simp only [x_Or_solve_20, x_Or_solve_23, x_Or_solve_24, x_Or_solve_25, x_Or_solve_26, x_Or_solve_29, x_Or_solve_30, x_Or_solve_31, Option.toList_some, Option.toList_none, List.cons_append, List.nil_append, List.length_cons, List.length_nil, Nat.reduceAdd, Nat.zero_add, Nat.reduceLeDiff, true_and, if_neg n10, gO_0_0, kO_reg r2.1 r2.2, gg]
        refine op_topOrder (or_reg r2) ?_
        have eG : om_tb 5 13 (I (om_ca g)) = om_cr I g := rfl
        rw [eG]
        simp only [x_Or_solve_34, Option.toList_some, Option.toList_none, List.cons_append, List.nil_append, List.length_cons, List.length_nil, Nat.reduceAdd, Nat.zero_add, Nat.reduceLeDiff, true_and]
        by_cases ho : om_or 5 13 (om_cr I g) ≤ 0
        · rw [if_pos ho]
          simp only [x_Or_solve_40, x_Or_solve_41, x_Or_solve_44, x_Or_solve_45, x_Or_solve_48, x_Or_solve_49, x_Or_solve_50, x_Or_solve_51, x_Or_solve_54, x_Or_solve_55, x_Or_solve_56, x_Or_solve_57, Option.toList_some, Option.toList_none, List.cons_append, List.nil_append, List.length_cons, List.length_nil, Nat.reduceAdd, Nat.zero_add, Nat.reduceLeDiff, true_and, gO_0_0, gO_0_5, kO_reg r1.1 r1.2, kO_reg r2.1 r2.2, rO_89]
          refine eq_findSolutions hs (or_reg r1) (by unfold om_ca; omega) (or_reg r2) (by unfold om_ca; omega) r3 (rA a r1.1 r1.2) om_cr_su (rA g r2.1 r2.2) om_cr_su rfl rfl (fun hno I1 f1 => ?_) (fun I1 D f1 f2 f3 => ?_)
          · simp only [x_Or_solve_60, x_Or_solve_63, x_Or_solve_64, x_Or_solve_67, x_Or_solve_70, x_Or_solve_73, x_Or_solve_75, Option.toList_some, Option.toList_none, List.cons_append, List.nil_append, List.length_cons, List.length_nil, Nat.reduceAdd, Nat.zero_add, Nat.reduceLeDiff, true_and, if_true]
            exact hn hc ho hno I1 f1
          · simp only [x_Or_solve_60, x_Or_solve_63, x_Or_solve_64, x_Or_solve_67, x_Or_solve_70, x_Or_solve_73, x_Or_solve_75, Option.toList_some, Option.toList_none, List.cons_append, List.nil_append, List.length_cons, List.length_nil, Nat.reduceAdd, Nat.zero_add, Nat.reduceLeDiff, true_and, if_neg n10, gO_0_5, gO_89_5, om_qs_eq]
            exact h1 hc ho I1 D f1 f2 f3
        · rw [if_neg ho]
          simp only [x_Or_solve_37, x_Or_solve_39]
          exact h5 hc (by omega)
      · simp only [x_Or_solve_20, x_Or_solve_23, x_Or_solve_24, Option.toList_some, Option.toList_none, List.cons_append, List.nil_append, List.length_cons, List.length_nil, Nat.reduceAdd, Nat.zero_add, Nat.reduceLeDiff, true_and, if_true]
        exact h0 (fun h => r3 h.2.2)
    · simp only [x_Or_solve_11, x_Or_solve_14, x_Or_solve_15, x_Or_solve_17, x_Or_solve_20, x_Or_solve_23, x_Or_solve_24, Option.toList_some, Option.toList_none, List.cons_append, List.nil_append, List.length_cons, List.length_nil, Nat.reduceAdd, Nat.zero_add, Nat.reduceLeDiff, true_and, if_true]
      exact h0 (fun h => r2 h.2.1)
  · simp only [x_Or_solve_4, x_Or_solve_7, x_Or_solve_8, x_Or_solve_11, x_Or_solve_14, x_Or_solve_15, x_Or_solve_17, x_Or_solve_20, x_Or_solve_23, x_Or_solve_24, Option.toList_some, Option.toList_none, List.cons_append, List.nil_append, List.length_cons, List.length_nil, Nat.reduceAdd, Nat.zero_add, Nat.reduceLeDiff, true_and, if_true]
    exact h0 (fun h => r1 h.1)
