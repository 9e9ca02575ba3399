/-! the law's beginning -/
theorem lw_cell {sc : Int × (Int → Int)} {d : Nat} {h : om_H} {Q : Option om_V → om_H → Prop} (hz : om_Z sc.1) (hq : Q (some (.inl (if sc.1 ≤ 0 then 0 else sc.2 0))) h) : om_R sc d 94 0 [om_sc, .inl 0] [] h Q := by
  simp only [x_Lw_cell_0, x_Lw_cell_1, x_Lw_cell_2, x_Lw_cell_3]
  refine ⟨hz, ?_⟩
  by_cases e : sc.1 ≤ 0
  · rw [if_pos e] at hq ⊢
    simp only [x_Lw_cell_12, x_Lw_cell_13]
    exact hq
  · rw [if_neg e] at hq ⊢
    simp only [x_Lw_cell_6, x_Lw_cell_7, x_Lw_cell_8, x_Lw_cell_9, x_Lw_cell_13]
    exact ⟨by omega, hq⟩
theorem oz_sg_c {sc : Int × (Int → Int)} {I : Nat → Int → Int} {Q : Option om_V → om_H → Prop} {d f j mi n pc pc' : Nat} {w : om_V} {L L' st st' L2 L2' : List om_V} {O O' : oz_O} (h : oz_sg d f j mi n pc L st O = some (pc', L', st', O')) (e1 : L.set j w = L2) (e2 : L'.set j w = L2') (hq : om_R sc (d + 1) mi pc' L2' st' (O', I) Q) : om_R sc (d + 1) mi pc L2 st (O, I) Q := by
  subst e1 e2
  exact oz_sg_ok n pc L st O _ h hq
theorem oz_or {sc : Int × (Int → Int)} {I : Nat → Int → Int} {Q : Option om_V → om_H → Prop} {k : Int} (hq : ∀ s, (k = 0 ∧ s = 0) ∨ (k ≠ 0 ∧ s = 1) → Q none (oz_B s, I)) : om_R sc 59 1 0 [om_r 0, .inl k, om_un] [] ([(8, 8, om_def 8)], I) Q := by
  refine oz_sg_c (w := .inl k) oz_e1 rfl rfl ?_
  rw [om_q_iload_n (i := 1) (z := k) rfl rfl, om_q_ifeq (t := 67) rfl rfl]
  by_cases e : k = 0
  · rw [if_pos e, om_q_iconst rfl (by decide)]
    refine oz_sg_c (w := .inl k) oz_e2 rfl rfl ?_
    rw [om_q_vret rfl rfl]
    exact hq 0 (Or.inl ⟨e, rfl⟩)
  · rw [if_neg e, om_q_iconst rfl (by decide), om_q_goto (t := 68) rfl rfl]
    refine oz_sg_c (w := .inl k) oz_e3 rfl rfl ?_
    rw [om_q_vret rfl rfl]
    exact hq 1 (Or.inr ⟨e, rfl⟩)
theorem oz_md {sc : Int × (Int → Int)} {I : Nat → Int → Int} {Q : Option om_V → om_H → Prop} {k s : Int} (hs : (k = 0 ∧ s = 0) ∨ (k ≠ 0 ∧ s = 1)) (hq : Q none (om_O s oz_q0, I)) : om_R sc 59 95 0 [om_r 101, .inl k] [] (oz_B s ++ [(9, 23, om_def 9)], I) Q := by
  rcases hs with ⟨e, e2⟩ | ⟨e, e2⟩
  · subst e2
    refine oz_sg_c (w := .inl k) oz_e4 rfl rfl ?_
    rw [om_q_iload_n (i := 1) (z := k) rfl rfl, om_q_ifne (t := 151) rfl rfl, if_pos e, om_q_iconst rfl (by decide), om_q_goto (t := 152) rfl rfl]
    refine oz_sg_c (w := .inl k) oz_e6 rfl rfl ?_
    rw [om_q_vret rfl rfl]
    exact hq
  · subst e2
    refine oz_sg_c (w := .inl k) oz_e5 rfl rfl ?_
    rw [om_q_iload_n (i := 1) (z := k) rfl rfl, om_q_ifne (t := 151) rfl rfl, if_neg e, om_q_iconst rfl (by decide)]
    refine oz_sg_c (w := .inl k) oz_e7 rfl rfl ?_
    rw [om_q_vret rfl rfl]
    exact hq
theorem oz_n1 {sc : Int × (Int → Int)} {I : Nat → Int → Int} {L : List om_V} : om_step sc 0 0 L [] ([], I) = om_nx 3 L [om_r 0] ([(8, 8, om_def 8)], I) := rfl
theorem oz_c1 {sc : Int × (Int → Int)} {I : Nat → Int → Int} {L : List om_V} {k : Int} : om_step sc 0 9 L [.inl k, om_r 0, om_r 0] ([(8, 8, om_def 8)], I) = some (.inr (.inr (1, [om_r 0, .inl k], 12, L, [om_r 0]))) := rfl
theorem oz_n2 {sc : Int × (Int → Int)} {I : Nat → Int → Int} {L : List om_V} {O : oz_O} (h : O.length = 101) : om_step sc 0 13 L [] (O, I) = om_nx 16 L [om_r 101] (O ++ [(9, 23, om_def 9)], I) := by
  rw [← h]
  rfl
theorem oz_c2 {sc : Int × (Int → Int)} {I : Nat → Int → Int} {L : List om_V} {k : Int} {O : oz_O} (h : O.length = 101) : om_step sc 0 22 L [.inl k, om_r 101, om_r 101] (O ++ [(9, 23, om_def 9)], I) = some (.inr (.inr (95, [om_r 101, .inl k], 25, L, [om_r 101]))) := by
  have e : om_rcv [.inl k, om_r 101, om_r 101] (O ++ [(9, 23, om_def 9)], I) 1 9 = true := by
    show (match (O ++ [(9, 23, om_def 9)])[101]? with
      | some (c, _, _) => c == 9
      | none => false) = true
    rw [List.getElem?_append_right (by omega), h]
    rfl
  show (if om_rcv [.inl k, om_r 101, om_r 101] (O ++ [(9, 23, om_def 9)], I) 1 9 = true then om_cal 25 L [.inl k, om_r 101, om_r 101] 95 2 else none) = _
  rw [if_pos e]
  rfl
theorem lw_init {sc : Int × (Int → Int)} {I : Nat → Int → Int} {Q : Option om_V → om_H → Prop} (hz : om_Z sc.1) (hq : ∀ s, s = 0 ∨ s = 1 → om_R sc 60 0 28 [om_sc, om_r 0, om_r 101, .inl 1] [] (om_O s oz_q0, I) Q) : om_R sc 60 0 0 [om_sc, om_un, om_un, om_un] [] ([], I) Q := by
  rw [om_R_nx oz_n1]
  simp only [x_Lw_law_3, x_Lw_law_4, x_Lw_law_5, x_Lw_law_6, Option.toList_some, Option.toList_none, List.cons_append, List.nil_append, List.length_cons, List.length_nil, Nat.reduceAdd, Nat.zero_add, Nat.reduceLeDiff, true_and]
  refine lw_cell hz ?_
  simp only [Option.toList_some, Option.toList_none, List.cons_append, List.nil_append, List.length_cons, List.length_nil, Nat.reduceAdd, Nat.zero_add, Nat.reduceLeDiff, true_and]
  rw [om_R_ca oz_c1]
  refine oz_or (fun s hs => ?_)
  have hl : (oz_B s).length = 101 := by
    rcases hs with ⟨_, e⟩ | ⟨_, e⟩ <;> rw [e]
    · exact oz_l1
    · exact oz_l2
  simp only [x_Lw_law_12, Option.toList_some, Option.toList_none, List.cons_append, List.nil_append, List.length_cons, List.length_nil, Nat.reduceAdd, Nat.zero_add, Nat.reduceLeDiff, true_and]
  rw [om_R_nx (oz_n2 hl)]
  simp only [x_Lw_law_16, x_Lw_law_17, x_Lw_law_18, x_Lw_law_19, Option.toList_some, Option.toList_none, List.cons_append, List.nil_append, List.length_cons, List.length_nil, Nat.reduceAdd, Nat.zero_add, Nat.reduceLeDiff, true_and]
  refine lw_cell hz ?_
  simp only [Option.toList_some, Option.toList_none, List.cons_append, List.nil_append, List.length_cons, List.length_nil, Nat.reduceAdd, Nat.zero_add, Nat.reduceLeDiff, true_and]
  rw [om_R_ca (oz_c2 hl)]
  refine oz_md hs ?_
  simp only [x_Lw_law_25, x_Lw_law_26, x_Lw_law_27, Option.toList_some, Option.toList_none, List.cons_append, List.nil_append, List.length_cons, List.length_nil, Nat.reduceAdd, Nat.zero_add, Nat.reduceLeDiff, true_and]
  exact hq s (by rcases hs with ⟨_, e⟩ | ⟨_, e⟩ <;> simp [e])
