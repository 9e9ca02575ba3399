/-! the class's equations -/
def on_dl (k j k' : Int) : Int := if j = 0 ∧ k' = k then 1 else 0
def on_M (s : Int) (A : Int → Int → Int) (r k : Int) : Int := om_img s A (on_dl k) 5 0 r
theorem on_dl_su {k : Int} (hk : 0 ≤ k ∧ k < 13) : om_su 1 13 (on_dl k) := fun i k' h => if_neg (by omega)
theorem on_dl_r {k : Int} : om_r31 (on_dl k) := fun i k' => by unfold on_dl; split <;> omega
theorem on_dl_0 {k : Int} : om_r0 (on_dl k) = on_dl k := by
  funext j k'
  unfold om_r0 on_dl
  by_cases h : j = 0
  · rw [if_pos h]
    by_cases h2 : k' = k
    · rw [if_pos ⟨rfl, h2⟩, if_pos ⟨h, h2⟩]
    · rw [if_neg (fun q => h2 q.2), if_neg (fun q => h2 q.2)]
  · rw [if_neg h, if_neg (fun q => h q.1)]
theorem on_M_r {s : Int} {A : Int → Int → Int} : om_r31 (on_M s A) := fun r k => om_img_r 5 0 r
theorem eq_su_r {sc : Int × (Int → Int)} {d : Nat} {s : Int} {q : Nat → Int} {Q : Option om_V → om_H → Prop} {a g : Nat} {dd k : Int} (hk : 0 ≤ k ∧ k < 13) {F W : Int → Int → Int} (rF : om_r31 F) (K : (Nat → Int → Int) → Prop) (hK : ∀ I', K I' → om_R sc (d + 4) 70 81 [.inr (.inl 89), .inr (.inl a), .inr (.inl g), .inl dd, .inl k, .inr (.inl 21), .inl 25] [] (om_O s q, I') Q) : ∀ (m : Nat) (r : Int) (I : Nat → Int → Int), r + m = 25 → 0 ≤ r → om_tb 9 25 (I 22) = F → (∀ r' k', om_tb 25 14 (I 93) r' k' = if k' = k ∧ 0 ≤ r' ∧ r' < r then F 0 r' else W r' k') → (∀ I', (∀ b, b ≠ 93 → I' b = I b) → (∀ r' k', om_tb 25 14 (I' 93) r' k' = if k' = k ∧ 0 ≤ r' ∧ r' < 25 then F 0 r' else W r' k') → K I') → om_R sc (d + 4) 70 44 [.inr (.inl 89), .inr (.inl a), .inr (.inl g), .inl dd, .inl k, .inr (.inl 21), .inl r] [] (om_O s q, I) Q := by
  have gm := om_op_g (oO_92 (s := s) (q := q))
  have gi := (om_op_g (oO_21 (s := s) (q := q))).2.2.2
  intro m
  induction m with
  | zero =>
    intro r I h1 h2 hF hW hq
    simp only [x_Eq_setUp_44, x_Eq_setUp_46, x_Eq_setUp_47, x_Eq_setUp_50, x_Eq_setUp_53, gO_89_2, gm.1]
    rw [if_pos (by omega)]
    have hr : r = 25 := by omega
    subst hr
    exact hK I (hq I (fun _ _ => rfl) hW)
  | succ m ih =>
    intro r I h1 h2 hF hW hq
    simp only [x_Eq_setUp_44, x_Eq_setUp_46, x_Eq_setUp_47, x_Eq_setUp_50, x_Eq_setUp_53, gO_89_2, gm.1]
    rw [if_neg (by omega)]
    simp only [x_Eq_setUp_56, x_Eq_setUp_57, x_Eq_setUp_60, x_Eq_setUp_62, x_Eq_setUp_64, x_Eq_setUp_66, x_Eq_setUp_67, x_Eq_setUp_69, gO_89_2, gi, Option.toList_some, Option.toList_none, List.cons_append, List.nil_append, List.length_cons, List.length_nil, Nat.reduceAdd, Nat.zero_add, Nat.reduceLeDiff, true_and]
    refine op_get oO_21 ?_
    rw [hF]
    have rf := rF 0 r
    simp only [x_Eq_setUp_72, gm.2.2.2, Option.toList_some, Option.toList_none, List.cons_append, List.nil_append, List.length_cons, List.length_nil, Nat.reduceAdd, Nat.zero_add, Nat.reduceLeDiff, true_and]
    refine op_put oO_92 (fun I1 f1 f2 => ?_)
    simp only [x_Eq_setUp_75, x_Eq_setUp_78, Option.toList_some, Option.toList_none, List.cons_append, List.nil_append, List.length_cons, List.length_nil, Nat.reduceAdd, Nat.zero_add, Nat.reduceLeDiff, true_and]
    refine ⟨⟨by omega, by omega⟩, ih _ I1 (by omega) (by omega) (by rw [f1 22 (by decide)]; exact hF) (fun r' k' => ?_) (fun I' f3 f4 => hq I' (fun b hb => by rw [f3 b hb, f1 b hb]) f4)⟩
    rw [f2 r' k', hW r' k']
    by_cases hc : r' = r ∧ k' = k
    · rw [if_pos (by omega), if_pos (by omega), hc.1]
      omega
    · rw [if_neg (fun z => hc z.1)]
      by_cases hc2 : k' = k ∧ 0 ≤ r' ∧ r' < r
      · rw [if_pos hc2, if_pos (by omega)]
      · rw [if_neg hc2, if_neg (by omega)]
def on_fe (I I' : Nat → Int → Int) : Prop := ∀ b, b ≠ 22 → b ≠ 24 → b < 90 ∨ 94 < b → I' b = I b
theorem on_fe_tr {I I1 I2 : Nat → Int → Int} (h1 : on_fe I I1) (h2 : on_fe I1 I2) : on_fe I I2 := fun b a c e => by rw [h2 b a c e, h1 b a c e]
theorem eq_su_k {sc : Int × (Int → Int)} {d : Nat} {s : Int} {q : Nat → Int} {Q : Option om_V → om_H → Prop} {a g ca : Nat} {dd : Int} (hs : s = 0 ∨ s = 1) (ha : om_op (om_O s q) a ca 5 13) (na : ca < 20) (hd : 0 ≤ dd ∧ dd ≤ 12) {A : Int → Int → Int} (rA : om_r31 A) (suA : om_su 5 13 A) (K : (Nat → Int → Int) → Prop) (hK : ∀ I' x y, K I' → om_R sc (d + 4) 70 87 [.inr (.inl 89), .inr (.inl a), .inr (.inl g), .inl dd, .inl (dd + 1), x, y] [] (om_O s q, I') Q) : ∀ (m : Nat) (k : Int) (x y : om_V) (I : Nat → Int → Int), k + m = dd + 1 → 0 ≤ k → om_tb 5 13 (I ca) = A → (∀ r' k', om_tb 25 14 (I 93) r' k' = if (0 ≤ k' ∧ k' < k) ∧ 0 ≤ r' ∧ r' < 25 then on_M s A r' k' else 0) → (∀ I', on_fe I I' → (∀ r' k', om_tb 25 14 (I' 93) r' k' = if (0 ≤ k' ∧ k' < dd + 1) ∧ 0 ≤ r' ∧ r' < 25 then on_M s A r' k' else 0) → K I') → om_R sc (d + 4) 70 10 [.inr (.inl 89), .inr (.inl a), .inr (.inl g), .inl dd, .inl k, x, y] [] (om_O s q, I) Q := by
  have gm := om_op_g (oO_90 (s := s) (q := q))
  intro m
  induction m with
  | zero =>
    intro k x y I h1 h2 hA hW hq
    simp only [x_Eq_setUp_10, x_Eq_setUp_12, x_Eq_setUp_13]
    rw [if_pos (by omega)]
    have hk : k = dd + 1 := by omega
    subst hk
    exact hK I x y (hq I (fun _ _ _ _ => rfl) hW)
  | succ m ih =>
    intro k x y I h1 h2 hA hW hq
    simp only [x_Eq_setUp_10, x_Eq_setUp_12, x_Eq_setUp_13]
    rw [if_neg (by omega)]
    simp only [x_Eq_setUp_16, x_Eq_setUp_17, x_Eq_setUp_20, x_Eq_setUp_21, x_Eq_setUp_23, x_Eq_setUp_24, gO_89_1, gm.2.2.2, Option.toList_some, Option.toList_none, List.cons_append, List.nil_append, List.length_cons, List.length_nil, Nat.reduceAdd, Nat.zero_add, Nat.reduceLeDiff, true_and]
    refine op_becomeTerm oO_90 (fun I1 f1 f2 => ?_)
    have e1 : om_tb 1 13 (I1 91) = on_dl k := by
      funext j k'
      rw [f2 j k']
      unfold on_dl
      by_cases hc : j = 0 ∧ k' = k
      · rw [if_pos ⟨hc, by omega⟩, if_pos hc]
        rfl
      · rw [if_neg (fun z => hc z.1), if_neg hc]
    simp only [x_Eq_setUp_27, x_Eq_setUp_28, x_Eq_setUp_31, x_Eq_setUp_32, x_Eq_setUp_33, x_Eq_setUp_36, gO_89_0, gO_89_1, rO_20, Option.toList_some, Option.toList_none, List.cons_append, List.nil_append, List.length_cons, List.length_nil, Nat.reduceAdd, Nat.zero_add, Nat.reduceLeDiff, true_and]
    refine al_image hs ha oO_90 (by omega) (by omega) (by decide) (by decide) (by rw [f1 ca (by omega), hA]; exact rA) (by rw [e1]; exact on_dl_r) (fun I2 f3 f4 => ?_)
    rw [e1, f1 ca (by omega), hA, on_dl_0] at f4
    simp only [x_Eq_setUp_39, x_Eq_setUp_41, x_Eq_setUp_42, Option.toList_some, Option.toList_none, List.cons_append, List.nil_append, List.length_cons, List.length_nil, Nat.reduceAdd, Nat.zero_add, Nat.reduceLeDiff, true_and]
    refine eq_su_r (k := k) (W := fun r' k' => if (0 ≤ k' ∧ k' < k) ∧ 0 ≤ r' ∧ r' < 25 then on_M s A r' k' else 0) (by omega) (om_img_r 5) (fun I3 => (∀ b, b ≠ 93 → I3 b = I2 b) ∧ ∀ r' k', om_tb 25 14 (I3 93) r' k' = if (0 ≤ k' ∧ k' < k + 1) ∧ 0 ≤ r' ∧ r' < 25 then on_M s A r' k' else 0) (fun I3 ⟨g1, g2⟩ => ?_) 25 0 I2 (by omega) (by omega) f4 (fun r' k' => by rw [f3 93 (by decide) (by decide), f1 93 (by decide), hW r' k', if_neg (show ¬ (k' = k ∧ 0 ≤ r' ∧ r' < 0) by omega)]) (fun I3 f5 f6 => ⟨f5, fun r' k' => ?_⟩)
    · have fe : on_fe I I3 := fun b b1 b2 b3 => by rw [g1 b (by omega), f3 b b1 b2, f1 b (by omega)]
      simp only [x_Eq_setUp_81, x_Eq_setUp_84, Option.toList_some, Option.toList_none, List.cons_append, List.nil_append, List.length_cons, List.length_nil, Nat.reduceAdd, Nat.zero_add, Nat.reduceLeDiff, true_and]
      exact ⟨⟨by omega, by omega⟩, ih _ _ _ I3 (by omega) (by omega) (by rw [fe ca (by omega) (by omega) (by omega)]; exact hA) g2 (fun I' f7 f8 => hq I' (on_fe_tr fe f7) f8)⟩
    · rw [f6 r' k']
      by_cases hc : k' = k ∧ 0 ≤ r' ∧ r' < 25
      · rw [if_pos hc, if_pos (by omega), hc.1]
        rfl
      · rw [if_neg hc]
        by_cases hc2 : (0 ≤ k' ∧ k' < k) ∧ 0 ≤ r' ∧ r' < 25
        · rw [if_pos hc2, if_pos (by omega)]
        · rw [if_neg hc2, if_neg (by omega)]
theorem eq_su_g {sc : Int × (Int → Int)} {d : Nat} {s : Int} {q : Nat → Int} {Q : Option om_V → om_H → Prop} {a g cg : Nat} {dd : Int} (hg : om_op (om_O s q) g cg 5 13) (ng : cg < 20) {x y : om_V} {B W : Int → Int → Int} (rB : om_r31 B) : ∀ (m : Nat) (r : Int) (I : Nat → Int → Int), r + m = 13 → 0 ≤ r → om_tb 5 13 (I cg) = B → (∀ r' k', om_tb 25 14 (I 93) r' k' = if k' = 13 ∧ 0 ≤ r' ∧ r' < r then B 0 r' else W r' k') → (∀ I', (∀ b, b ≠ 93 → I' b = I b) → (∀ r' k', om_tb 25 14 (I' 93) r' k' = if k' = 13 ∧ 0 ≤ r' ∧ r' < 13 then B 0 r' else W r' k') → Q none (om_O s q, I')) → om_R sc (d + 4) 70 90 [.inr (.inl 89), .inr (.inl a), .inr (.inl g), .inl dd, .inl r, x, y] [] (om_O s q, I) Q := by
  have gm := om_op_g (oO_92 (s := s) (q := q))
  have gg := (om_op_g hg).2.2.2
  intro m
  induction m with
  | zero =>
    intro r I h1 h2 hB hW hq
    simp only [x_Eq_setUp_90, x_Eq_setUp_92, x_Eq_setUp_94, x_Eq_setUp_121]
    rw [if_pos (by omega)]
    have hr : r = 13 := by omega
    subst hr
    exact hq I (fun _ _ => rfl) hW
  | succ m ih =>
    intro r I h1 h2 hB hW hq
    simp only [x_Eq_setUp_90, x_Eq_setUp_92, x_Eq_setUp_94]
    rw [if_neg (by omega)]
    simp only [x_Eq_setUp_97, x_Eq_setUp_98, x_Eq_setUp_101, x_Eq_setUp_103, x_Eq_setUp_105, x_Eq_setUp_106, x_Eq_setUp_107, x_Eq_setUp_109, gO_89_2, gg, Option.toList_some, Option.toList_none, List.cons_append, List.nil_append, List.length_cons, List.length_nil, Nat.reduceAdd, Nat.zero_add, Nat.reduceLeDiff, true_and]
    refine op_get hg ?_
    rw [hB]
    have rf := rB 0 r
    simp only [x_Eq_setUp_112, gm.2.2.2, Option.toList_some, Option.toList_none, List.cons_append, List.nil_append, List.length_cons, List.length_nil, Nat.reduceAdd, Nat.zero_add, Nat.reduceLeDiff, true_and]
    refine op_put oO_92 (fun I1 f1 f2 => ?_)
    simp only [x_Eq_setUp_115, x_Eq_setUp_118, Option.toList_some, Option.toList_none, List.cons_append, List.nil_append, List.length_cons, List.length_nil, Nat.reduceAdd, Nat.zero_add, Nat.reduceLeDiff, true_and]
    refine ⟨⟨by omega, by omega⟩, ih _ I1 (by omega) (by omega) (by rw [f1 cg (by omega)]; exact hB) (fun r' k' => ?_) (fun I' f3 f4 => hq I' (fun b hb => by rw [f3 b hb, f1 b hb]) f4)⟩
    rw [f2 r' k', hW r' k']
    by_cases hc : r' = r ∧ k' = 13
    · rw [if_pos (by omega), if_pos (by omega), hc.1]
      omega
    · rw [if_neg (fun z => hc z.1)]
      by_cases hc2 : k' = 13 ∧ 0 ≤ r' ∧ r' < r
      · rw [if_pos hc2, if_pos (by omega)]
      · rw [if_neg hc2, if_neg (by omega)]
theorem eq_setUp {sc : Int × (Int → Int)} {d : Nat} {s : Int} {q : Nat → Int} {I : Nat → Int → Int} {Q : Option om_V → om_H → Prop} {a g ca cg : Nat} {dd : Int} (hs : s = 0 ∨ s = 1) (ha : om_op (om_O s q) a ca 5 13) (na : ca < 20) (hg : om_op (om_O s q) g cg 5 13) (ng : cg < 20) (hd : 0 ≤ dd ∧ dd ≤ 12) {A B : Int → Int → Int} (rA : om_r31 A) (suA : om_su 5 13 A) (rB : om_r31 B) (suB : om_su 5 13 B) (hA : om_tb 5 13 (I ca) = A) (hB : om_tb 5 13 (I cg) = B) (hq : ∀ I', on_fe I I' → om_tb 25 14 (I' 93) = on_W0 (on_M s A) (B 0) dd → Q none (om_O s q, I')) : om_R sc (d + 4) 70 0 [.inr (.inl 89), .inr (.inl a), .inr (.inl g), .inl dd, om_un, om_un, om_un] [] (om_O s q, I) Q := by
  have gm := om_op_g (oO_92 (s := s) (q := q))
  simp only [x_Eq_setUp_0, x_Eq_setUp_1, x_Eq_setUp_4, gO_89_2, gm.2.2.2, Option.toList_some, Option.toList_none, List.cons_append, List.nil_append, List.length_cons, List.length_nil, Nat.reduceAdd, Nat.zero_add, Nat.reduceLeDiff, true_and]
  refine op_wipe oO_92 (fun I1 f1 f2 => ?_)
  have fe1 : on_fe I I1 := fun b b1 b2 b3 => f1 b (by omega)
  simp only [x_Eq_setUp_7, x_Eq_setUp_8, Option.toList_some, Option.toList_none, List.cons_append, List.nil_append, List.length_cons, List.length_nil, Nat.reduceAdd, Nat.zero_add, Nat.reduceLeDiff, true_and]
  refine eq_su_k hs ha na hd rA suA (fun I2 => on_fe I1 I2 ∧ ∀ r' k', om_tb 25 14 (I2 93) r' k' = if (0 ≤ k' ∧ k' < dd + 1) ∧ 0 ≤ r' ∧ r' < 25 then on_M s A r' k' else 0) (fun I2 x y ⟨g1, g2⟩ => ?_) (dd + 1).toNat 0 _ _ I1 (by omega) (by omega) (by rw [fe1 ca (by omega) (by omega) (by omega)]; exact hA) (fun r' k' => by rw [f2, if_neg (by omega)]) (fun I2 f3 f4 => ⟨f3, f4⟩)
  simp only [x_Eq_setUp_87, x_Eq_setUp_88, Option.toList_some, Option.toList_none, List.cons_append, List.nil_append, List.length_cons, List.length_nil, Nat.reduceAdd, Nat.zero_add, Nat.reduceLeDiff, true_and]
  have fe2 := on_fe_tr fe1 g1
  refine eq_su_g hg ng rB (W := fun r' k' => if (0 ≤ k' ∧ k' < dd + 1) ∧ 0 ≤ r' ∧ r' < 25 then on_M s A r' k' else 0) 13 0 I2 (by omega) (by omega) (by rw [fe2 cg (by omega) (by omega) (by omega)]; exact hB) (fun r' k' => by rw [g2 r' k', if_neg (show ¬ (k' = 13 ∧ 0 ≤ r' ∧ r' < 0) by omega)]) (fun I3 f5 f6 => hq I3 (on_fe_tr fe2 (fun b b1 b2 b3 => f5 b (by omega))) ?_)
  funext r k
  rw [f6 r k]
  unfold on_W0
  by_cases hr : 0 ≤ r ∧ r < 25
  · rw [if_pos hr]
    by_cases hk : 0 ≤ k ∧ k ≤ dd
    · rw [if_pos hk, if_neg (by omega), if_pos (by omega)]
    · rw [if_neg hk]
      by_cases h13 : k = 13
      · rw [if_pos h13]
        by_cases hr2 : r < 13
        · rw [if_pos (by omega)]
        · rw [if_neg (by omega), if_neg (by omega), suB 0 r (by omega)]
      · rw [if_neg h13, if_neg (by omega), if_neg (by omega)]
  · rw [if_neg hr, if_neg (by omega), if_neg (by omega)]
theorem eq_findPivot_l {sc : Int × (Int → Int)} {d : Nat} {s : Int} {q : Nat → Int} {I : Nat → Int → Int} {Q : Option om_V → om_H → Prop} {fr k : Int} {W : Int → Int → Int} (hfr : 0 ≤ fr) (hW : om_tb 25 14 (I 93) = W) (h1 : ∀ r, fr ≤ r → r < 25 → W r k ≠ 0 → Q (some (.inl r)) (om_O s q, I)) (h0 : (∀ r, fr ≤ r → r < 25 → W r k = 0) → Q (some (.inl (-1))) (om_O s q, I)) : ∀ (m : Nat) (r : Int), r + m = 25 → fr ≤ r → (∀ r', fr ≤ r' → r' < r → W r' k = 0) → om_R sc (d + 1) 72 2 [.inr (.inl 89), .inl fr, .inl k, .inl r] [] (om_O s q, I) Q := by
  have gm := om_op_g (oO_92 (s := s) (q := q))
  intro m
  induction m with
  | zero =>
    intro r e1 e2 hz
    simp only [x_Eq_findPivot_2, x_Eq_findPivot_3, x_Eq_findPivot_4, x_Eq_findPivot_7, x_Eq_findPivot_10, x_Eq_findPivot_33, x_Eq_findPivot_34, gO_89_2, gm.1]
    rw [if_pos (by omega)]
    exact h0 (fun r' a b => hz r' a (by omega))
  | succ m ih =>
    intro r e1 e2 hz
    simp only [x_Eq_findPivot_2, x_Eq_findPivot_3, x_Eq_findPivot_4, x_Eq_findPivot_7, x_Eq_findPivot_10, gO_89_2, gm.1]
    rw [if_neg (by omega)]
    simp only [x_Eq_findPivot_13, x_Eq_findPivot_14, x_Eq_findPivot_17, x_Eq_findPivot_18, x_Eq_findPivot_19, gO_89_2, gm.2.2.2, Option.toList_some, Option.toList_none, List.cons_append, List.nil_append, List.length_cons, List.length_nil, Nat.reduceAdd, Nat.zero_add, Nat.reduceLeDiff, true_and]
    refine op_get oO_92 ?_
    rw [hW]
    simp only [x_Eq_findPivot_22, x_Eq_findPivot_25, x_Eq_findPivot_26, x_Eq_findPivot_27, x_Eq_findPivot_30, x_Eq_findPivot_33, x_Eq_findPivot_34, Option.toList_some, Option.toList_none, List.cons_append, List.nil_append, List.length_cons, List.length_nil, Nat.reduceAdd, Nat.zero_add, Nat.reduceLeDiff, true_and]
    by_cases hn : W r k = 0
    · rw [if_pos hn]
      refine ⟨⟨by omega, by omega⟩, ih _ (by omega) (by omega) (fun r' a b => ?_)⟩
      by_cases h : r' = r
      · rw [h]; exact hn
      · exact hz r' a (by omega)
    · rw [if_neg hn]
      exact h1 r e2 (by omega) hn
theorem eq_findPivot {sc : Int × (Int → Int)} {d : Nat} {s : Int} {q : Nat → Int} {I : Nat → Int → Int} {Q : Option om_V → om_H → Prop} {fr k : Int} {W : Int → Int → Int} (hfr : 0 ≤ fr ∧ fr ≤ 25) (hW : om_tb 25 14 (I 93) = W) (h1 : ∀ r, fr ≤ r → r < 25 → W r k ≠ 0 → Q (some (.inl r)) (om_O s q, I)) (h0 : (∀ r, fr ≤ r → r < 25 → W r k = 0) → Q (some (.inl (-1))) (om_O s q, I)) : om_R sc (d + 1) 72 0 [.inr (.inl 89), .inl fr, .inl k, om_un] [] (om_O s q, I) Q := by
  simp only [x_Eq_findPivot_0, x_Eq_findPivot_1]
  exact eq_findPivot_l hfr.1 hW h1 h0 (25 - fr).toNat fr (by omega) (Int.le_refl _) (fun r' a b => by omega)
theorem eq_swap_l {sc : Int × (Int → Int)} {d : Nat} {s : Int} {q : Nat → Int} {Q : Option om_V → om_H → Prop} {a b : Int} (ha : 0 ≤ a ∧ a < 25) (hb : 0 ≤ b ∧ b < 25) {W : Int → Int → Int} (rW : om_r31 W) (suW : om_su 25 14 W) : ∀ (m : Nat) (k : Int) (x : om_V) (I : Nat → Int → Int), k + m = 14 → 0 ≤ k → (∀ r' k', om_tb 25 14 (I 93) r' k' = if k' < k then on_swp W a b r' k' else W r' k') → (∀ I', (∀ b, b ≠ 93 → I' b = I b) → om_tb 25 14 (I' 93) = on_swp W a b → Q none (om_O s q, I')) → om_R sc (d + 1) 73 2 [.inr (.inl 89), .inl a, .inl b, .inl k, x] [] (om_O s q, I) Q := by
  have gm := om_op_g (oO_92 (s := s) (q := q))
  have sus := on_swp_su ha hb suW
  intro m
  induction m with
  | zero =>
    intro k x I h1 h2 hI hq
    simp only [x_Eq_swapRows_2, x_Eq_swapRows_3, x_Eq_swapRows_5, x_Eq_swapRows_54]
    rw [if_pos (by omega)]
    refine hq I (fun _ _ => rfl) ?_
    funext r' k'
    rw [hI r' k']
    split
    · rfl
    · rw [suW r' k' (by omega), sus r' k' (by omega)]
  | succ m ih =>
    intro k x I h1 h2 hI hq
    simp only [x_Eq_swapRows_2, x_Eq_swapRows_3, x_Eq_swapRows_5]
    rw [if_neg (by omega)]
    simp only [x_Eq_swapRows_8, x_Eq_swapRows_9, x_Eq_swapRows_12, x_Eq_swapRows_13, x_Eq_swapRows_14, gO_89_2, gm.2.2.2, Option.toList_some, Option.toList_none, List.cons_append, List.nil_append, List.length_cons, List.length_nil, Nat.reduceAdd, Nat.zero_add, Nat.reduceLeDiff, true_and]
    refine op_get oO_92 ?_
    rw [hI a k, if_neg (by omega)]
    simp only [x_Eq_swapRows_17, x_Eq_swapRows_19, x_Eq_swapRows_20, x_Eq_swapRows_23, x_Eq_swapRows_24, x_Eq_swapRows_25, x_Eq_swapRows_26, x_Eq_swapRows_29, x_Eq_swapRows_30, x_Eq_swapRows_31, gO_89_2, gm.2.2.2, Option.toList_some, Option.toList_none, List.cons_append, List.nil_append, List.length_cons, List.length_nil, Nat.reduceAdd, Nat.zero_add, Nat.reduceLeDiff, true_and]
    refine op_get oO_92 ?_
    rw [hI b k, if_neg (by omega)]
    simp only [x_Eq_swapRows_34, gm.2.2.2, Option.toList_some, Option.toList_none, List.cons_append, List.nil_append, List.length_cons, List.length_nil, Nat.reduceAdd, Nat.zero_add, Nat.reduceLeDiff, true_and]
    refine op_put oO_92 (fun I1 f1 f2 => ?_)
    simp only [x_Eq_swapRows_37, x_Eq_swapRows_38, x_Eq_swapRows_41, x_Eq_swapRows_42, x_Eq_swapRows_43, x_Eq_swapRows_45, gO_89_2, gm.2.2.2, Option.toList_some, Option.toList_none, List.cons_append, List.nil_append, List.length_cons, List.length_nil, Nat.reduceAdd, Nat.zero_add, Nat.reduceLeDiff, true_and]
    refine op_put oO_92 (fun I2 f3 f4 => ?_)
    simp only [x_Eq_swapRows_48, x_Eq_swapRows_51, Option.toList_some, Option.toList_none, List.cons_append, List.nil_append, List.length_cons, List.length_nil, Nat.reduceAdd, Nat.zero_add, Nat.reduceLeDiff, true_and]
    refine ⟨⟨by omega, by omega⟩, ih _ _ I2 (by omega) (by omega) (fun r' k' => ?_) (fun I' f5 f6 => hq I' (fun b hb => by rw [f5 b hb, f3 b hb, f1 b hb]) f6)⟩
    have ra := rW a k
    have rb := rW b k
    rw [f4 r' k', f2 r' k', hI r' k']
    by_cases hk : k' = k
    · subst hk
      rw [if_pos (show k' < k' + 1 by omega)]
      unfold on_swp
      by_cases h5 : r' = b
      · rw [if_pos ⟨⟨h5, rfl⟩, by omega⟩]
        by_cases h6 : r' = a
        · rw [if_pos h6, ← h5, h6]
          omega
        · rw [if_neg h6, if_pos h5]
          omega
      · rw [if_neg (fun z => h5 z.1.1)]
        by_cases h6 : r' = a
        · rw [if_pos ⟨⟨h6, rfl⟩, by omega⟩, if_pos h6]
          omega
        · rw [if_neg (fun z => h6 z.1.1), if_neg h6, if_neg h5, if_neg (by omega)]
    · rw [if_neg (fun z => hk z.1.2), if_neg (fun z => hk z.1.2)]
      by_cases h7 : k' < k
      · rw [if_pos h7, if_pos (by omega)]
      · rw [if_neg h7, if_neg (by omega)]
theorem eq_swapRows {sc : Int × (Int → Int)} {d : Nat} {s : Int} {q : Nat → Int} {I : Nat → Int → Int} {Q : Option om_V → om_H → Prop} {a b : Int} (ha : 0 ≤ a ∧ a < 25) (hb : 0 ≤ b ∧ b < 25) {W : Int → Int → Int} (rW : om_r31 W) (suW : om_su 25 14 W) (hW : om_tb 25 14 (I 93) = W) (hq : ∀ I', (∀ b, b ≠ 93 → I' b = I b) → om_tb 25 14 (I' 93) = on_swp W a b → Q none (om_O s q, I')) : om_R sc (d + 1) 73 0 [.inr (.inl 89), .inl a, .inl b, om_un, om_un] [] (om_O s q, I) Q := by
  simp only [x_Eq_swapRows_0, x_Eq_swapRows_1]
  refine eq_swap_l ha hb rW suW 14 0 _ I (by omega) (by omega) (fun r' k' => ?_) hq
  rw [hW]
  split
  · rw [suW r' k' (by omega), on_swp_su ha hb suW r' k' (by omega)]
  · rfl
/-- the pivot's row made one -/
def on_one (W : Int → Int → Int) (p c r k : Int) : Int := if r = p then (om_pw (W p c) 29 * W p k) % 31 else W r k
theorem eq_clr_1 {sc : Int × (Int → Int)} {d : Nat} {s : Int} {q : Nat → Int} {Q : Option om_V → om_H → Prop} {p c v : Int} (hp : 0 ≤ p ∧ p < 25) {W : Int → Int → Int} (rW : om_r31 W) (suW : om_su 25 14 W) (hv : v = om_pw (W p c) 29) (K : (Nat → Int → Int) → Prop) (hK : ∀ I', K I' → om_R sc (d + 1) 74 51 [.inr (.inl 89), .inl p, .inl c, .inl v, .inl 14, om_un, om_un] [] (om_O s q, I') Q) : ∀ (m : Nat) (k : Int) (I : Nat → Int → Int), k + m = 14 → 0 ≤ k → (∀ r' k', om_tb 25 14 (I 93) r' k' = if k' < k then on_one W p c r' k' else W r' k') → (∀ I', (∀ b, b ≠ 93 → I' b = I b) → om_tb 25 14 (I' 93) = on_one W p c → K I') → om_R sc (d + 1) 74 16 [.inr (.inl 89), .inl p, .inl c, .inl v, .inl k, om_un, om_un] [] (om_O s q, I) Q := by
  have gm := om_op_g (oO_92 (s := s) (q := q))
  have vb := om_pw_b (v := W p c) 29
  intro m
  induction m with
  | zero =>
    intro k I h1 h2 hI hq
    simp only [x_Eq_clearColumn_16, x_Eq_clearColumn_18, x_Eq_clearColumn_20]
    rw [if_pos (by omega)]
    have hk : k = 14 := by omega
    subst hk
    refine hK I (hq I (fun _ _ => rfl) ?_)
    funext r' k'
    rw [hI r' k']
    split
    · rfl
    · unfold on_one
      split
      · rename_i e
        rw [suW p k' (by omega), suW r' k' (by omega), Int.mul_zero]
        rfl
      · rfl
  | succ m ih =>
    intro k I h1 h2 hI hq
    simp only [x_Eq_clearColumn_16, x_Eq_clearColumn_18, x_Eq_clearColumn_20]
    rw [if_neg (by omega)]
    simp only [x_Eq_clearColumn_23, x_Eq_clearColumn_24, x_Eq_clearColumn_27, x_Eq_clearColumn_28, x_Eq_clearColumn_30, x_Eq_clearColumn_31, x_Eq_clearColumn_32, x_Eq_clearColumn_35, x_Eq_clearColumn_36, x_Eq_clearColumn_38, gO_89_2, gm.2.2.2, Option.toList_some, Option.toList_none, List.cons_append, List.nil_append, List.length_cons, List.length_nil, Nat.reduceAdd, Nat.zero_add, Nat.reduceLeDiff, true_and]
    refine op_get oO_92 ?_
    rw [hI p k, if_neg (by omega)]
    obtain ⟨a1, a2⟩ := rW p k
    obtain ⟨a3, a4⟩ := om_mb (t := v) (T := 31) (by omega) (by omega) a1 a2
    simp only [x_Eq_clearColumn_41, x_Eq_clearColumn_42, gm.2.2.2, Option.toList_some, Option.toList_none, List.cons_append, List.nil_append, List.length_cons, List.length_nil, Nat.reduceAdd, Nat.zero_add, Nat.reduceLeDiff, true_and]
    refine ⟨⟨by omega, by omega⟩, op_put oO_92 (fun I1 f1 f2 => ?_)⟩
    simp only [x_Eq_clearColumn_45, x_Eq_clearColumn_48, Option.toList_some, Option.toList_none, List.cons_append, List.nil_append, List.length_cons, List.length_nil, Nat.reduceAdd, Nat.zero_add, Nat.reduceLeDiff, true_and]
    refine ⟨⟨by omega, by omega⟩, ih _ I1 (by omega) (by omega) (fun r' k' => ?_) (fun I' f3 f4 => hq I' (fun b hb => by rw [f3 b hb, f1 b hb]) f4)⟩
    rw [f2 r' k', hI r' k']
    by_cases hk : k' = k
    · subst hk
      rw [if_pos (show k' < k' + 1 by omega)]
      unfold on_one
      by_cases hr : r' = p
      · rw [if_pos ⟨⟨hr, rfl⟩, by omega⟩, if_pos hr, hv]
      · rw [if_neg (fun z => hr z.1.1), if_neg hr, if_neg (by omega)]
    · rw [if_neg (fun z => hk z.1.2)]
      by_cases h7 : k' < k
      · rw [if_pos h7, if_pos (by omega)]
      · rw [if_neg h7, if_neg (by omega)]
theorem eq_clr_k {sc : Int × (Int → Int)} {d : Nat} {s : Int} {q : Nat → Int} {Q : Option om_V → om_H → Prop} {p c v r t : Int} (hp : 0 ≤ p ∧ p < 25) (hr : 0 ≤ r ∧ r < 25) (hrp : r ≠ p) (ht : 0 ≤ t ∧ t < 31) {V : Int → Int → Int} (rV : om_r31 V) (suV : om_su 25 14 V) (K : (Nat → Int → Int) → Prop) (hK : ∀ I', K I' → om_R sc (d + 1) 74 141 [.inr (.inl 89), .inl p, .inl c, .inl v, .inl r, .inl t, .inl 14] [] (om_O s q, I') Q) : ∀ (m : Nat) (k : Int) (I : Nat → Int → Int), k + m = 14 → 0 ≤ k → (∀ r' k', om_tb 25 14 (I 93) r' k' = if r' = r ∧ k' < k then (V r k' - t * V p k') % 31 else V r' k') → (∀ I', (∀ b, b ≠ 93 → I' b = I b) → (∀ r' k', om_tb 25 14 (I' 93) r' k' = if r' = r then (V r k' - t * V p k') % 31 else V r' k') → K I') → om_R sc (d + 1) 74 92 [.inr (.inl 89), .inl p, .inl c, .inl v, .inl r, .inl t, .inl k] [] (om_O s q, I) Q := by
  have gm := om_op_g (oO_92 (s := s) (q := q))
  intro m
  induction m with
  | zero =>
    intro k I h1 h2 hI hq
    simp only [x_Eq_clearColumn_92, x_Eq_clearColumn_94, x_Eq_clearColumn_96]
    rw [if_pos (by omega)]
    have hk : k = 14 := by omega
    subst hk
    refine hK I (hq I (fun _ _ => rfl) (fun r' k' => ?_))
    rw [hI r' k']
    by_cases h5 : r' = r
    · rw [if_pos h5]
      by_cases h6 : k' < 14
      · rw [if_pos ⟨h5, h6⟩]
      · rw [if_neg (fun z => h6 z.2), suV r' k' (by omega), suV r k' (by omega), suV p k' (by omega), Int.mul_zero]
        rfl
    · rw [if_neg h5, if_neg (fun z => h5 z.1)]
  | succ m ih =>
    intro k I h1 h2 hI hq
    simp only [x_Eq_clearColumn_92, x_Eq_clearColumn_94, x_Eq_clearColumn_96]
    rw [if_neg (by omega)]
    simp only [x_Eq_clearColumn_99, x_Eq_clearColumn_100, x_Eq_clearColumn_103, x_Eq_clearColumn_105, x_Eq_clearColumn_107, x_Eq_clearColumn_108, x_Eq_clearColumn_111, x_Eq_clearColumn_113, x_Eq_clearColumn_115, gO_89_2, gm.2.2.2, Option.toList_some, Option.toList_none, List.cons_append, List.nil_append, List.length_cons, List.length_nil, Nat.reduceAdd, Nat.zero_add, Nat.reduceLeDiff, true_and]
    refine op_get oO_92 ?_
    rw [hI r k, if_neg (by omega)]
    simp only [x_Eq_clearColumn_118, x_Eq_clearColumn_120, x_Eq_clearColumn_121, x_Eq_clearColumn_124, x_Eq_clearColumn_125, x_Eq_clearColumn_127, gO_89_2, gm.2.2.2, Option.toList_some, Option.toList_none, List.cons_append, List.nil_append, List.length_cons, List.length_nil, Nat.reduceAdd, Nat.zero_add, Nat.reduceLeDiff, true_and]
    refine op_get oO_92 ?_
    rw [hI p k, if_neg (by omega)]
    obtain ⟨b1, b2⟩ := rV r k
    obtain ⟨a1, a2⟩ := rV p k
    obtain ⟨a3, a4⟩ := om_mb (t := t) (T := 31) (by omega) (by omega) a1 a2
    simp only [x_Eq_clearColumn_130, x_Eq_clearColumn_131, x_Eq_clearColumn_132, gm.2.2.2, Option.toList_some, Option.toList_none, List.cons_append, List.nil_append, List.length_cons, List.length_nil, Nat.reduceAdd, Nat.zero_add, Nat.reduceLeDiff, true_and]
    refine ⟨⟨by omega, by omega⟩, ⟨by omega, by omega⟩, op_put oO_92 (fun I1 f1 f2 => ?_)⟩
    simp only [x_Eq_clearColumn_135, x_Eq_clearColumn_138, Option.toList_some, Option.toList_none, List.cons_append, List.nil_append, List.length_cons, List.length_nil, Nat.reduceAdd, Nat.zero_add, Nat.reduceLeDiff, true_and]
    refine ⟨⟨by omega, by omega⟩, ih _ I1 (by omega) (by omega) (fun r' k' => ?_) (fun I' f3 f4 => hq I' (fun b hb => by rw [f3 b hb, f1 b hb]) f4)⟩
    rw [f2 r' k', hI r' k']
    by_cases hk : r' = r ∧ k' = k
    · rw [if_pos ⟨hk, by omega⟩, if_pos (by omega), hk.2]
    · rw [if_neg (fun z => hk z.1)]
      by_cases h7 : r' = r ∧ k' < k
      · rw [if_pos h7, if_pos (by omega)]
      · rw [if_neg h7, if_neg (by omega)]
theorem eq_clr_r {sc : Int × (Int → Int)} {d : Nat} {s : Int} {q : Nat → Int} {Q : Option om_V → om_H → Prop} {p c v : Int} (hp : 0 ≤ p ∧ p < 25) {V : Int → Int → Int} (rV : om_r31 V) (suV : om_su 25 14 V) : ∀ (m : Nat) (r : Int) (x y : om_V) (I : Nat → Int → Int), r + m = 25 → 0 ≤ r → (∀ r' k', om_tb 25 14 (I 93) r' k' = if r' < r ∧ r' ≠ p then (V r' k' - V r' c * V p k') % 31 else V r' k') → (∀ I', (∀ b, b ≠ 93 → I' b = I b) → (∀ r' k', om_tb 25 14 (I' 93) r' k' = if r' ≠ p then (V r' k' - V r' c * V p k') % 31 else V r' k') → Q none (om_O s q, I')) → om_R sc (d + 1) 74 54 [.inr (.inl 89), .inl p, .inl c, .inl v, .inl r, x, y] [] (om_O s q, I) Q := by
  have gm := om_op_g (oO_92 (s := s) (q := q))
  intro m
  induction m with
  | zero =>
    intro r x y I h1 h2 hI hq
    simp only [x_Eq_clearColumn_54, x_Eq_clearColumn_56, x_Eq_clearColumn_57, x_Eq_clearColumn_60, x_Eq_clearColumn_63, x_Eq_clearColumn_147, gO_89_2, gm.1]
    rw [if_pos (by omega)]
    refine hq I (fun _ _ => rfl) (fun r' k' => ?_)
    rw [hI r' k']
    by_cases h5 : r' < r
    · by_cases h6 : r' = p
      · rw [if_neg (fun z => z.2 h6), if_neg (fun z => z h6)]
      · rw [if_pos ⟨h5, h6⟩, if_pos h6]
    · rw [if_neg (fun z => h5 z.1), if_pos (by omega), suV r' k' (by omega), suV r' c (by omega), Int.zero_mul]
      rfl
  | succ m ih =>
    intro r x y I h1 h2 hI hq
    simp only [x_Eq_clearColumn_54, x_Eq_clearColumn_56, x_Eq_clearColumn_57, x_Eq_clearColumn_60, x_Eq_clearColumn_63, gO_89_2, gm.1]
    rw [if_neg (by omega)]
    simp only [x_Eq_clearColumn_66, x_Eq_clearColumn_67, x_Eq_clearColumn_70, x_Eq_clearColumn_72, x_Eq_clearColumn_73, gO_89_2, gm.2.2.2, Option.toList_some, Option.toList_none, List.cons_append, List.nil_append, List.length_cons, List.length_nil, Nat.reduceAdd, Nat.zero_add, Nat.reduceLeDiff, true_and]
    refine op_get oO_92 ?_
    rw [hI r c, if_neg (by omega)]
    simp only [x_Eq_clearColumn_76, x_Eq_clearColumn_78, x_Eq_clearColumn_80, x_Eq_clearColumn_81, Option.toList_some, Option.toList_none, List.cons_append, List.nil_append, List.length_cons, List.length_nil, Nat.reduceAdd, Nat.zero_add, Nat.reduceLeDiff, true_and]
    have rc := rV r c
    have next : ∀ y' I1, (∀ b, b ≠ 93 → I1 b = I b) → (∀ r' k', om_tb 25 14 (I1 93) r' k' = if r' < r + 1 ∧ r' ≠ p then (V r' k' - V r' c * V p k') % 31 else V r' k') → om_R sc (d + 1) 74 141 [.inr (.inl 89), .inl p, .inl c, .inl v, .inl r, .inl (V r c), y'] [] (om_O s q, I1) Q := by
      intro y' I1 f1 f2
      simp only [x_Eq_clearColumn_141, x_Eq_clearColumn_144, Option.toList_some, Option.toList_none, List.cons_append, List.nil_append, List.length_cons, List.length_nil, Nat.reduceAdd, Nat.zero_add, Nat.reduceLeDiff, true_and]
      exact ⟨⟨by omega, by omega⟩, ih _ _ _ I1 (by omega) (by omega) f2 (fun I' f3 f4 => hq I' (fun b hb => by rw [f3 b hb, f1 b hb]) f4)⟩
    by_cases hrp : r = p
    · rw [if_pos hrp]
      refine next y I (fun _ _ => rfl) (fun r' k' => ?_)
      rw [hI r' k']
      by_cases h5 : r' < r ∧ r' ≠ p
      · rw [if_pos h5, if_pos (by omega)]
      · rw [if_neg h5, if_neg (by omega)]
    · rw [if_neg hrp]
      simp only [x_Eq_clearColumn_84, x_Eq_clearColumn_86, Option.toList_some, Option.toList_none, List.cons_append, List.nil_append, List.length_cons, List.length_nil, Nat.reduceAdd, Nat.zero_add, Nat.reduceLeDiff, true_and]
      by_cases hz : V r c = 0
      · rw [if_pos hz]
        refine next y I (fun _ _ => rfl) (fun r' k' => ?_)
        rw [hI r' k']
        by_cases h6 : r' = r
        · rw [if_neg (by omega), if_pos (by omega), h6, hz, Int.zero_mul]
          have := rV r k'
          omega
        · by_cases h5 : r' < r ∧ r' ≠ p
          · rw [if_pos h5, if_pos (by omega)]
          · rw [if_neg h5, if_neg (by omega)]
      · rw [if_neg hz]
        simp only [x_Eq_clearColumn_89, x_Eq_clearColumn_90, Option.toList_some, Option.toList_none, List.cons_append, List.nil_append, List.length_cons, List.length_nil, Nat.reduceAdd, Nat.zero_add, Nat.reduceLeDiff, true_and]
        have rU : om_r31 (fun r' k' => if r' < r ∧ r' ≠ p then (V r' k' - V r' c * V p k') % 31 else V r' k') := by
          intro r' k'
          show 0 ≤ (if r' < r ∧ r' ≠ p then (V r' k' - V r' c * V p k') % 31 else V r' k') ∧ (if r' < r ∧ r' ≠ p then (V r' k' - V r' c * V p k') % 31 else V r' k') < 31
          split
          · omega
          · exact rV r' k'
        have suU : om_su 25 14 (fun r' k' => if r' < r ∧ r' ≠ p then (V r' k' - V r' c * V p k') % 31 else V r' k') := by
          intro r' k' hn
          show (if r' < r ∧ r' ≠ p then (V r' k' - V r' c * V p k') % 31 else V r' k') = 0
          rw [suV r' k' hn]
          split
          · by_cases hk : 0 ≤ k' ∧ k' < 14
            · rw [suV r' c (by omega), Int.zero_mul]; rfl
            · rw [suV p k' (by omega), Int.mul_zero]; rfl
          · rfl
        refine eq_clr_k (t := V r c) hp (by omega) hrp rc rU suU (fun I1 => (∀ b, b ≠ 93 → I1 b = I b) ∧ ∀ r' k', om_tb 25 14 (I1 93) r' k' = if r' < r + 1 ∧ r' ≠ p then (V r' k' - V r' c * V p k') % 31 else V r' k') (fun I1 ⟨g1, g2⟩ => next _ I1 g1 g2) 14 0 I (by omega) (by omega) (fun r' k' => ?_) (fun I1 f1 f2 => ⟨f1, fun r' k' => ?_⟩)
        · rw [hI r' k']
          by_cases h6 : r' = r ∧ k' < 0
          · rw [if_pos h6, if_neg (by omega), if_neg (by omega), if_neg (by omega), suV r' k' (by omega), suV r k' (by omega), suV p k' (by omega), Int.mul_zero]
            rfl
          · rw [if_neg h6]
        · rw [f2 r' k']
          by_cases h6 : r' = r
          · rw [if_pos h6, if_neg (show ¬ (r < r ∧ r ≠ p) by omega), if_neg (show ¬ (p < r ∧ p ≠ p) by omega), if_pos (show r' < r + 1 ∧ r' ≠ p by omega), h6]
          · rw [if_neg h6]
            by_cases h5 : r' < r ∧ r' ≠ p
            · rw [if_pos h5, if_pos (by omega)]
            · rw [if_neg h5, if_neg (by omega)]
theorem eq_clearColumn {sc : Int × (Int → Int)} {d : Nat} {s : Int} {q : Nat → Int} {I : Nat → Int → Int} {Q : Option om_V → om_H → Prop} {p c : Int} (hp : 0 ≤ p ∧ p < 25) {W : Int → Int → Int} (rW : om_r31 W) (suW : om_su 25 14 W) (hW : om_tb 25 14 (I 93) = W) (hq : ∀ I', (∀ b, b ≠ 93 → I' b = I b) → om_tb 25 14 (I' 93) = on_clr W p c → Q none (om_O s q, I')) : om_R sc (d + 1) 74 0 [.inr (.inl 89), .inl p, .inl c, om_un, om_un, om_un, om_un] [] (om_O s q, I) Q := by
  have gm := om_op_g (oO_92 (s := s) (q := q))
  simp only [x_Eq_clearColumn_0, x_Eq_clearColumn_1, x_Eq_clearColumn_4, x_Eq_clearColumn_5, x_Eq_clearColumn_6, gO_89_2, gm.2.2.2, Option.toList_some, Option.toList_none, List.cons_append, List.nil_append, List.length_cons, List.length_nil, Nat.reduceAdd, Nat.zero_add, Nat.reduceLeDiff, true_and]
  refine op_get oO_92 ?_
  rw [hW]
  simp only [x_Eq_clearColumn_9, Option.toList_some, Option.toList_none, List.cons_append, List.nil_append, List.length_cons, List.length_nil, Nat.reduceAdd, Nat.zero_add, Nat.reduceLeDiff, true_and]
  refine al_inverse (rW p c) ?_
  simp only [x_Eq_clearColumn_12, x_Eq_clearColumn_13, x_Eq_clearColumn_14, Option.toList_some, Option.toList_none, List.cons_append, List.nil_append, List.length_cons, List.length_nil, Nat.reduceAdd, Nat.zero_add, Nat.reduceLeDiff, true_and]
  have r1 : om_r31 (on_one W p c) := fun r k => by
    unfold on_one
    split
    · omega
    · exact rW r k
  have su1 : om_su 25 14 (on_one W p c) := fun r k hn => by
    unfold on_one
    split
    · rw [suW p k (by omega), Int.mul_zero]; rfl
    · exact suW r k hn
  refine eq_clr_1 hp rW suW rfl (fun I1 => (∀ b, b ≠ 93 → I1 b = I b) ∧ om_tb 25 14 (I1 93) = on_one W p c) (fun I1 ⟨g1, g2⟩ => ?_) 14 0 I (by omega) (by omega) (fun r' k' => ?_) (fun I1 f1 f2 => ⟨f1, f2⟩)
  · simp only [x_Eq_clearColumn_51, x_Eq_clearColumn_52, Option.toList_some, Option.toList_none, List.cons_append, List.nil_append, List.length_cons, List.length_nil, Nat.reduceAdd, Nat.zero_add, Nat.reduceLeDiff, true_and]
    refine eq_clr_r hp r1 su1 25 0 _ _ I1 (by omega) (by omega) (fun r' k' => ?_) (fun I2 f3 f4 => hq I2 (fun b hb => by rw [f3 b hb, g1 b hb]) ?_)
    · rw [g2]
      by_cases h5 : r' < 0 ∧ r' ≠ p
      · rw [if_pos h5, su1 r' k' (by omega), su1 r' c (by omega), Int.zero_mul]
        rfl
      · rw [if_neg h5]
    · funext r' k'
      rw [f4 r' k']
      unfold on_clr on_one
      by_cases h5 : r' = p
      · rw [if_neg (fun z => z h5), if_pos h5, if_pos h5]
      · rw [if_pos h5, if_neg h5, if_neg h5, if_neg h5, if_pos rfl]
  · rw [hW]
    split
    · unfold on_one
      split
      · rw [suW p k' (by omega), suW r' k' (by omega), Int.mul_zero]; rfl
      · rfl
    · rfl
