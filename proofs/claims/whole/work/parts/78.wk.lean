/-! the reference's work: its pieces -/
def oy_q (q : Nat → Int) (v t : Int) : Nat → Int := om_qs (om_qs q 8 v) 9 t
section oy_qs
variable {q : Nat → Int} {v t u : Int}
theorem oy_q_7 : oy_q q v t 7 = q 7 := rfl
theorem oy_q_8 : oy_q q v t 8 = v := rfl
theorem oy_q_9 : oy_q q v t 9 = t := rfl
theorem oy_q_s8 : om_qs (oy_q q v t) 8 u = oy_q q u t := by
  funext n
  unfold oy_q om_qs
  by_cases h2 : n = 8
  · subst h2; rfl
  · simp only [if_neg h2]
theorem oy_q_s9 : om_qs (oy_q q v t) 9 u = oy_q q v u := by
  funext n
  unfold oy_q om_qs
  by_cases h2 : n = 9
  · subst h2; rfl
  · simp only [if_neg h2]
end oy_qs
theorem md_sumOf {sc : Int × (Int → Int)} {d : Nat} {h : om_H} {Q : Option om_V → om_H → Prop} {r : om_V} {v : Int} (hv : 0 ≤ v ∧ v < 5) (hq : Q (some (.inl (8 + 2 * v))) h) : om_R sc d 106 0 [r, .inl v] [] h Q := by
  simp only [x_Md_sumOf_0, x_Md_sumOf_2, x_Md_sumOf_3, x_Md_sumOf_4, x_Md_sumOf_5, x_Md_sumOf_6]
  exact ⟨⟨by omega, by omega⟩, ⟨by omega, by omega⟩, hq⟩
theorem md_productOf {sc : Int × (Int → Int)} {d : Nat} {h : om_H} {Q : Option om_V → om_H → Prop} {r : om_V} {v : Int} (hv : 0 ≤ v ∧ v < 5) (hq : Q (some (.inl (9 + 2 * v))) h) : om_R sc d 109 0 [r, .inl v] [] h Q := by
  simp only [x_Md_productOf_0, x_Md_productOf_2, x_Md_productOf_3, x_Md_productOf_4, x_Md_productOf_5, x_Md_productOf_6]
  exact ⟨⟨by omega, by omega⟩, ⟨by omega, by omega⟩, hq⟩
/-- what lies at a level; what stays below it -/
def ox_W (I : Nat → Int → Int) (o : Int) (a P : Int → Int → Int) (sg b : Int) : Prop := om_hd I (8 + 2 * o) = a ∧ om_hd I (9 + 2 * o) = P ∧ I 105 o = sg ∧ I 106 o = b
def ox_bf (o : Int) (I I' : Nat → Int → Int) : Prop := (∀ b, b ≠ 102 → b ≠ 103 → b ≠ 105 → b ≠ 106 → I' b = I b) ∧ (∀ h, h < 8 + 2 * o → om_hd I' h = om_hd I h) ∧ ∀ k, k < o → I' 105 k = I 105 k ∧ I' 106 k = I 106 k
theorem ox_bf_rf {o : Int} {I : Nat → Int → Int} : ox_bf o I I := ⟨fun _ _ _ _ _ => rfl, fun _ _ => rfl, fun _ _ => ⟨rfl, rfl⟩⟩
theorem ox_bf_tr {o o1 o2 : Int} {I I1 I2 : Nat → Int → Int} (h1 : ox_bf o1 I I1) (h2 : ox_bf o2 I1 I2) (e1 : o ≤ o1) (e2 : o ≤ o2) : ox_bf o I I2 :=
  ⟨fun b a1 a2 a3 a4 => by rw [h2.1 b a1 a2 a3 a4, h1.1 b a1 a2 a3 a4], fun h hh => by rw [h2.2.1 h (by omega), h1.2.1 h (by omega)], fun k hk => ⟨by rw [(h2.2.2 k (by omega)).1, (h1.2.2 k (by omega)).1], by rw [(h2.2.2 k (by omega)).2, (h1.2.2 k (by omega)).2]⟩⟩
theorem ox_W_m {I I' : Nat → Int → Int} {o o' : Int} {a P : Int → Int → Int} {sg b : Int} (h : ox_W I o a P sg b) (hb : ox_bf o' I I') (ho : o + 1 ≤ o') : ox_W I' o a P sg b :=
  ⟨by rw [hb.2.1 _ (by omega)]; exact h.1, by rw [hb.2.1 _ (by omega)]; exact h.2.1, by rw [(hb.2.2 o (by omega)).1]; exact h.2.2.1, by rw [(hb.2.2 o (by omega)).2]; exact h.2.2.2⟩
theorem ox_bf_fr {o t : Int} {I I' : Nat → Int → Int} (h : om_fr I I' t) : ox_bf o I I' := ⟨fun b a1 a2 _ _ => h.1 b a2, fun hh _ => by rw [om_fr_hd h], fun k _ => ⟨by rw [h.1 105 (by decide)], by rw [h.1 106 (by decide)]⟩⟩
theorem om_f2_hd {I I' : Nat → Int → Int} {t u : Int} (hf : om_f2 I I' t u) : om_hd I' = om_hd I := by
  funext h i k
  unfold om_hd
  rw [hf.1 102 (by decide)]
theorem ox_bf_f2 {o t u : Int} {I I' : Nat → Int → Int} (h : om_f2 I I' t u) : ox_bf o I I' := ⟨fun b a1 a2 _ _ => h.1 b a2, fun hh _ => by rw [om_f2_hd h], fun k _ => ⟨by rw [h.1 105 (by decide)], by rw [h.1 106 (by decide)]⟩⟩
theorem ox_bf_fh {o hh : Int} {I I' : Nat → Int → Int} (h : om_fh I I' hh) (e : 8 + 2 * o ≤ hh) : ox_bf o I I' := ⟨fun b a1 _ _ _ => h.1 b a1, fun h' w => h.2 h' (by omega), fun k _ => ⟨by rw [h.1 105 (by decide)], by rw [h.1 106 (by decide)]⟩⟩
theorem ox_W_fr {I I' : Nat → Int → Int} {o t : Int} {a P : Int → Int → Int} {sg b : Int} (h : ox_W I o a P sg b) (hb : om_fr I I' t) : ox_W I' o a P sg b :=
  ⟨by rw [om_fr_hd hb]; exact h.1, by rw [om_fr_hd hb]; exact h.2.1, by rw [hb.1 105 (by decide)]; exact h.2.2.1, by rw [hb.1 106 (by decide)]; exact h.2.2.2⟩
theorem ox_W_f2 {I I' : Nat → Int → Int} {o t u : Int} {a P : Int → Int → Int} {sg b : Int} (h : ox_W I o a P sg b) (hb : om_f2 I I' t u) : ox_W I' o a P sg b :=
  ⟨by rw [om_f2_hd hb]; exact h.1, by rw [om_f2_hd hb]; exact h.2.1, by rw [hb.1 105 (by decide)]; exact h.2.2.1, by rw [hb.1 106 (by decide)]; exact h.2.2.2⟩
theorem md_beginProduct {sc : Int × (Int → Int)} {d : Nat} {s : Int} {q : Nat → Int} {I : Nat → Int → Int} {Q : Option om_V → om_H → Prop} {o t sg sn b : Int} {a P : Int → Int → Int} (ho : 0 ≤ o ∧ o < 5) (hW : ox_W I o a P sg b) (hq : ∀ I', ox_bf o I I' → ox_W I' o a (ox_t1 0 0 1) sn 0 → Q none (om_O s (oy_q q o t), I')) : om_R sc (d + 1) 108 0 [.inr (.inl 101), .inl sn] [] (om_O s (oy_q q o t), I) Q := by
  simp only [x_Md_beginProduct_0, x_Md_beginProduct_1, x_Md_beginProduct_4, x_Md_beginProduct_5, x_Md_beginProduct_8, x_Md_beginProduct_9, x_Md_beginProduct_10, x_Md_beginProduct_11, x_Md_beginProduct_14, x_Md_beginProduct_15, x_Md_beginProduct_18, x_Md_beginProduct_19, x_Md_beginProduct_20, x_Md_beginProduct_21, x_Md_beginProduct_22, x_Md_beginProduct_23, x_Md_beginProduct_26, gO_101_5, gO_101_6, gO_101_7, aO_105, aO_106, oy_q_8, rO_101, Option.toList_some, Option.toList_none, List.cons_append, List.nil_append, List.length_cons, List.length_nil, Nat.reduceAdd, Nat.zero_add, Nat.reduceLeDiff, true_and]
  refine ⟨by omega, by omega, Or.inl trivial, ?_⟩
  refine md_productOf ho ?_
  simp only [x_Md_beginProduct_29, rO_101, Option.toList_some, Option.toList_none, List.cons_append, List.nil_append, List.length_cons, List.length_nil, Nat.reduceAdd, Nat.zero_add, Nat.reduceLeDiff, true_and]
  refine md_zero (by omega) (fun I1 f1 f2 => ?_)
  simp only [x_Md_beginProduct_32, x_Md_beginProduct_33, x_Md_beginProduct_36, x_Md_beginProduct_38, x_Md_beginProduct_39, x_Md_beginProduct_40, x_Md_beginProduct_43, gO_101_1, gO_101_7, oy_q_8, rO_101, Option.toList_some, Option.toList_none, List.cons_append, List.nil_append, List.length_cons, List.length_nil, Nat.reduceAdd, Nat.zero_add, Nat.reduceLeDiff, true_and]
  refine md_productOf ho ?_
  simp only [x_Md_beginProduct_46, x_Md_beginProduct_47, x_Md_beginProduct_48, x_Md_beginProduct_49, aO_102, Option.toList_some, Option.toList_none, List.cons_append, List.nil_append, List.length_cons, List.length_nil, Nat.reduceAdd, Nat.zero_add, Nat.reduceLeDiff, true_and]
  refine ⟨⟨by omega, by omega⟩, by omega, ?_⟩
  have e0 : 65 * (9 + 2 * o) = 65 * (9 + 2 * o) + 13 * 0 + 0 := by omega
  rw [e0]
  have g1 := om_fh_p (I := I1) (h := 9 + 2 * o) (i := 0) (k := 0) (v := 1) (by omega) (by omega) (by omega) (by omega) (by omega) (by omega)
  have g2 := fun h' i' k' => om_hd_p (I := I1) (h := 9 + 2 * o) (i := 0) (k := 0) (v := 1) (by omega) (by omega) (by omega) (by omega) (by omega) (by omega) h' i' k'
  have u1 : ∀ h, om_hd (om_u (om_u I 105 (om_p (I 105) o sn)) 106 (om_p ((om_u I 105 (om_p (I 105) o sn)) 106) o 0)) h = om_hd I h := by
    intro h
    funext i k
    unfold om_hd
    rw [om_u_ne (by decide), om_u_ne (by decide)]
  refine hq _ ⟨fun b b1 b2 b3 b4 => ?_, fun h hh => ?_, fun k hk => ⟨?_, ?_⟩⟩ ⟨?_, ?_, ?_, ?_⟩
  · rw [g1.1 b b1, f1.1 b b1, om_u_ne b4, om_u_ne b3]
  · rw [g1.2 h (by omega), f1.2 h (by omega), u1 h]
  · rw [g1.1 105 (by decide), f1.1 105 (by decide), om_u_ne (by decide), om_u_eq, om_p_ne (by omega)]
  · rw [g1.1 106 (by decide), f1.1 106 (by decide), om_u_eq, om_p_ne (by omega), om_u_ne (by decide)]
  · rw [g1.2 _ (by omega), f1.2 _ (by omega), u1]
    exact hW.1
  · funext i k
    rw [g2, f2]
    unfold ox_t1
    by_cases e : i = 0 ∧ k = 0
    · rw [if_pos ⟨rfl, e.1, e.2⟩, if_pos e]
    · rw [if_neg (fun w => e w.2), if_neg e]
  · rw [g1.1 105 (by decide), f1.1 105 (by decide), om_u_ne (by decide), om_u_eq, om_p_eq]
  · rw [g1.1 106 (by decide), f1.1 106 (by decide), om_u_eq, om_p_eq]
theorem md_open {sc : Int × (Int → Int)} {d : Nat} {s : Int} {q : Nat → Int} {I : Nat → Int → Int} {Q : Option om_V → om_H → Prop} {o t : Int} (ho : 0 ≤ o ∧ o < 5) (hq : ∀ I', ox_bf o I I' → ox_W I' o (fun _ _ => 0) (ox_t1 0 0 1) 1 0 → Q none (om_O s (oy_q q o t), I')) : om_R sc (d + 2) 105 0 [.inr (.inl 101)] [] (om_O s (oy_q q o t), I) Q := by
  simp only [x_Md_open_0, x_Md_open_1, x_Md_open_2, x_Md_open_3, x_Md_open_6, gO_101_7, oy_q_8, rO_101, Option.toList_some, Option.toList_none, List.cons_append, List.nil_append, List.length_cons, List.length_nil, Nat.reduceAdd, Nat.zero_add, Nat.reduceLeDiff, true_and]
  refine md_sumOf ho ?_
  simp only [x_Md_open_9, rO_101, Option.toList_some, Option.toList_none, List.cons_append, List.nil_append, List.length_cons, List.length_nil, Nat.reduceAdd, Nat.zero_add, Nat.reduceLeDiff, true_and]
  refine md_zero (by omega) (fun I1 f1 f2 => ?_)
  simp only [x_Md_open_12, x_Md_open_13, x_Md_open_14, rO_101, Option.toList_some, Option.toList_none, List.cons_append, List.nil_append, List.length_cons, List.length_nil, Nat.reduceAdd, Nat.zero_add, Nat.reduceLeDiff, true_and]
  refine md_beginProduct ho (I := I1) (a := fun _ _ => 0) (P := om_hd I1 (9 + 2 * o)) ⟨f2, rfl, rfl, rfl⟩ (fun I2 f3 f4 => ?_)
  simp only [x_Md_open_17, Option.toList_some, Option.toList_none, List.cons_append, List.nil_append, List.length_cons, List.length_nil, Nat.reduceAdd, Nat.zero_add, Nat.reduceLeDiff, true_and]
  exact hq I2 (ox_bf_tr (ox_bf_fh f1 (by omega)) f3 (Int.le_refl _) (Int.le_refl _)) f4
def ox_sr (sg t : Int) : Prop := (sg = 1 ∧ t = 1) ∨ (sg = -1 ∧ t = 30)
theorem md_ep_l {sc : Int × (Int → Int)} {d : Nat} {s : Int} {q : Nat → Int} {Q : Option om_V → om_H → Prop} {o tl sg b : Int} (ho : 0 ≤ o ∧ o < 5) (hsg : sg = 1 ∨ sg = -1) {A B : Int → Int → Int} (rA : om_r31 A) (rB : om_r31 B) : ∀ (m : Nat) (z : Int) (y : om_V) (I : Nat → Int → Int), z + m = 65 → 0 ≤ z → I 105 o = sg → (∀ i k, z ≤ 13 * i + k → 0 ≤ k → k < 13 → om_hd I (8 + 2 * o) i k = A i k) → om_hd I (9 + 2 * o) = B → (∀ i k, 0 ≤ i → 13 * i + k < z → 0 ≤ k → k < 13 → om_hd I (8 + 2 * o) i k = (A i k + sg * B i k) % 31) → (∀ I', om_fh I I' (8 + 2 * o) → (∀ i k, 0 ≤ i → i < 5 → 0 ≤ k → k < 13 → om_hd I' (8 + 2 * o) i k = (A i k + sg * B i k) % 31) → Q none (om_O s (oy_q q o tl), I')) → om_R sc (d + 1) 110 2 [.inr (.inl 101), .inl z, y] [] (om_O s (oy_q q o tl), I) Q := by
  intro m
  induction m with
  | zero =>
    intro z y I h1 h2 hg hA hB hT hq
    simp only [x_Md_endProduct_2, x_Md_endProduct_3, x_Md_endProduct_5, x_Md_endProduct_72]
    rw [if_pos (by omega)]
    exact hq I om_fh_rf (fun i k i1 i2 k1 k2 => hT i k i1 (by omega) k1 k2)
  | succ m ih =>
    intro z y I h1 h2 hg hA hB hT hq
    simp only [x_Md_endProduct_2, x_Md_endProduct_3, x_Md_endProduct_5]
    rw [if_neg (by omega)]
    have eA : I 102 (65 * (8 + 2 * o) + z) = A (z / 13) (z % 13) := by
      rw [om_hd_at (I := I) (h := 8 + 2 * o) (z := z) (by omega) (by omega)]
      exact hA _ _ (by omega) (by omega) (by omega)
    have eB : I 102 (65 * (9 + 2 * o) + z) = B (z / 13) (z % 13) := by
      rw [om_hd_at (I := I) (h := 9 + 2 * o) (z := z) (by omega) (by omega), hB]
    obtain ⟨a1, a2⟩ := rA (z / 13) (z % 13)
    obtain ⟨a3, a4⟩ := rB (z / 13) (z % 13)
    have a5 : -30 ≤ sg * B (z / 13) (z % 13) ∧ sg * B (z / 13) (z % 13) ≤ 30 := by
      rcases hsg with h | h <;> rw [h] <;> omega
    simp only [x_Md_endProduct_8, x_Md_endProduct_10, x_Md_endProduct_11, x_Md_endProduct_12, x_Md_endProduct_15, gO_101_7, oy_q_8, rO_101, Option.toList_some, Option.toList_none, List.cons_append, List.nil_append, List.length_cons, List.length_nil, Nat.reduceAdd, Nat.zero_add, Nat.reduceLeDiff, true_and]
    refine md_sumOf ho ?_
    simp only [x_Md_endProduct_18, x_Md_endProduct_19, x_Md_endProduct_20, x_Md_endProduct_21, x_Md_endProduct_22, x_Md_endProduct_23, x_Md_endProduct_26, x_Md_endProduct_27, x_Md_endProduct_28, x_Md_endProduct_31, x_Md_endProduct_32, x_Md_endProduct_33, x_Md_endProduct_34, x_Md_endProduct_37, x_Md_endProduct_38, x_Md_endProduct_41, x_Md_endProduct_42, x_Md_endProduct_43, x_Md_endProduct_46, x_Md_endProduct_48, x_Md_endProduct_49, x_Md_endProduct_50, x_Md_endProduct_53, gO_101_1, gO_101_5, gO_101_7, aO_102, aO_105, oy_q_8, rO_101, hg, eA, Option.toList_some, Option.toList_none, List.cons_append, List.nil_append, List.length_cons, List.length_nil, Nat.reduceAdd, Nat.zero_add, Nat.reduceLeDiff, true_and]
    refine ⟨⟨by omega, by omega⟩, ⟨by omega, by omega⟩, by omega, by omega, ?_⟩
    refine md_productOf ho ?_
    simp only [x_Md_endProduct_56, x_Md_endProduct_57, x_Md_endProduct_58, x_Md_endProduct_59, x_Md_endProduct_60, x_Md_endProduct_61, x_Md_endProduct_62, aO_102, eB, Option.toList_some, Option.toList_none, List.cons_append, List.nil_append, List.length_cons, List.length_nil, Nat.reduceAdd, Nat.zero_add, Nat.reduceLeDiff, true_and]
    refine ⟨⟨by omega, by omega⟩, ⟨by omega, by omega⟩, by omega, ⟨by omega, by omega⟩, ⟨by omega, by omega⟩, md_mod ?_⟩
    simp only [x_Md_endProduct_65, x_Md_endProduct_66, x_Md_endProduct_69, aO_102, Option.toList_some, Option.toList_none, List.cons_append, List.nil_append, List.length_cons, List.length_nil, Nat.reduceAdd, Nat.zero_add, Nat.reduceLeDiff, true_and]
    rw [om_hd_z (h := 8 + 2 * o) (by omega) (by omega)]
    have hf : ∀ v, om_fh I (om_u I 102 (om_p (I 102) (65 * (8 + 2 * o) + 13 * (z / 13) + z % 13) v)) (8 + 2 * o) := fun v => om_fh_p (by omega) (by omega) (by omega) (by omega) (by omega) (by omega)
    have hp : ∀ v h' i' k', om_hd (om_u I 102 (om_p (I 102) (65 * (8 + 2 * o) + 13 * (z / 13) + z % 13) v)) h' i' k' = if h' = 8 + 2 * o ∧ i' = z / 13 ∧ k' = z % 13 then v else om_hd I h' i' k' := fun v h' i' k' => om_hd_p (by omega) (by omega) (by omega) (by omega) (by omega) (by omega) h' i' k'
    refine ⟨by omega, ⟨by omega, by omega⟩, ih _ _ _ (by omega) (by omega) (by rw [(hf _).1 105 (by decide)]; exact hg) (fun i k q1 q2 q3 => ?_) (by rw [(hf _).2 _ (by omega)]; exact hB) (fun i k q0 q1 q2 q3 => ?_) (fun I' f1 f2 => hq I' (om_fh_tr (hf _) f1) f2)⟩
    · rw [hp, if_neg (by omega)]
      exact hA i k (by omega) q2 q3
    · rw [hp]
      by_cases hc : (8 + 2 * o = 8 + 2 * o) ∧ i = z / 13 ∧ k = z % 13
      · rw [if_pos hc, hc.2.1, hc.2.2]
      · rw [if_neg hc]
        exact hT i k q0 (by omega) q2 q3
theorem md_endProduct {sc : Int × (Int → Int)} {d : Nat} {s : Int} {q : Nat → Int} {I : Nat → Int → Int} {Q : Option om_V → om_H → Prop} {o tl sg t b : Int} {a P : Int → Int → Int} (ho : 0 ≤ o ∧ o < 5) (hW : ox_W I o a P sg b) (hst : ox_sr sg t) (ra : om_r31 a) (rP : om_r31 P) (hq : ∀ I', ox_bf o I I' → ox_W I' o (om_ad a P t) P sg b → Q none (om_O s (oy_q q o tl), I')) : om_R sc (d + 1) 110 0 [.inr (.inl 101), om_un, om_un] [] (om_O s (oy_q q o tl), I) Q := by
  simp only [x_Md_endProduct_0, x_Md_endProduct_1]
  refine md_ep_l ho (b := b) (sg := sg) (by unfold ox_sr at hst; omega) ra rP 65 0 _ I (by omega) (by omega) hW.2.2.1 (fun i k _ _ _ => by rw [hW.1]) hW.2.1 (fun i k _ _ _ _ => by omega) (fun I' f1 f2 => ?_)
  refine hq I' (ox_bf_fh f1 (Int.le_refl _)) ⟨?_, by rw [f1.2 _ (by omega)]; exact hW.2.1, by rw [f1.1 105 (by decide)]; exact hW.2.2.1, by rw [f1.1 106 (by decide)]; exact hW.2.2.2⟩
  funext i k
  by_cases hin : 0 ≤ i ∧ i < 5 ∧ 0 ≤ k ∧ k < 13
  · rw [f2 i k hin.1 hin.2.1 hin.2.2.1 hin.2.2.2]
    unfold om_ad
    rcases hst with h | h
    · rw [h.1, h.2]
    · rw [h.1, h.2]
      omega
  · rw [om_hd_su i k hin]
    have := ox_ad_su (t := t) (A := a) (B := P) (hW.1 ▸ om_hd_su) (hW.2.1 ▸ om_hd_su) i k hin
    exact this.symm
