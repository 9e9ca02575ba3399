/-! the class's lines -/
def on_nw (s c e x : Int) (i : Nat) : Int := if s = 0 then on_n0 c e x i else on_n1 c e x i
def on_rs (s : Int) (A : Int → Int → Int) (c e x : Int) : Int := om_sm (fun i => on_hv (A i) x 0 13 * on_nw s c e x i.toNat) 5
def on_fac (s : Int) (A : Int → Int → Int) (c e : Int) : Prop := ∀ x, 0 ≤ x → x < 17 → on_rs s A c e x % 31 = 0
noncomputable def on_fl (s : Int) (A : Int → Int → Int) (k : Int) : Int := @ite _ (on_fac s A (k / 31) (k % 31)) (Classical.propDecidable _) 1 0
theorem on_fl_1 {s k : Int} {A : Int → Int → Int} (h : on_fac s A (k / 31) (k % 31)) : on_fl s A k = 1 := if_pos h
theorem on_fl_0 {s k : Int} {A : Int → Int → Int} (h : ¬ on_fac s A (k / 31) (k % 31)) : on_fl s A k = 0 := if_neg h
theorem on_mul_b {a b X Y : Int} (h1 : 0 ≤ a ∧ a ≤ X) (h2 : 0 ≤ b ∧ b ≤ Y) : 0 ≤ a * b ∧ a * b ≤ X * Y := ⟨Int.mul_nonneg h1.1 h2.1, Int.mul_le_mul h1.2 h2.2 h2.1 (by omega)⟩
theorem ln_fv_k {sc : Int × (Int → Int)} {d : Nat} {s : Int} {q : Nat → Int} {I : Nat → Int → Int} {Q : Option om_V → om_H → Prop} {a ca : Nat} {i x : Int} (ha : om_op (om_O s q) a ca 5 13) {A : Int → Int → Int} (rA : om_r31 A) (hA : om_tb 5 13 (I ca) = A) (hx : 0 ≤ x ∧ x < 17) (hK : om_R sc (d + 1) 80 50 [.inr (.inl 97), .inr (.inl a), .inl i, .inl x, .inl (on_hv (A i) x 0 13 % 31), .inl (-1)] [] (om_O s q, I) Q) : ∀ (m : Nat), m ≤ 13 → om_R sc (d + 1) 80 22 [.inr (.inl 97), .inr (.inl a), .inl i, .inl x, .inl (on_hv (A i) x m (13 - m) % 31), .inl ((m : Int) - 1)] [] (om_O s q, I) Q := by
  have ga := (om_op_g ha).2.2.2
  intro m
  induction m with
  | zero =>
    intro _
    simp only [x_Ln_fillValues_22, x_Ln_fillValues_24]
    rw [if_pos (by omega)]
    exact hK
  | succ m ih =>
    intro hm
    simp only [x_Ln_fillValues_22, x_Ln_fillValues_24]
    rw [if_neg (by omega)]
    obtain ⟨b1, b2⟩ := on_mul_b (a := on_hv (A i) x ((m + 1 : Nat) : Int) (13 - (m + 1)) % 31) (b := x) (X := 30) (Y := 16) (by omega) (by omega)
    simp only [x_Ln_fillValues_27, x_Ln_fillValues_29, x_Ln_fillValues_30, x_Ln_fillValues_31, x_Ln_fillValues_32, x_Ln_fillValues_33, x_Ln_fillValues_35, ga, Option.toList_some, Option.toList_none, List.cons_append, List.nil_append, List.length_cons, List.length_nil, Nat.reduceAdd, Nat.zero_add, Nat.reduceLeDiff, true_and]
    refine ⟨⟨by omega, by omega⟩, op_get ha ?_⟩
    rw [hA]
    have r := rA i (((m + 1 : Nat) : Int) - 1)
    simp only [x_Ln_fillValues_38, x_Ln_fillValues_39, x_Ln_fillValues_41, x_Ln_fillValues_42, x_Ln_fillValues_44, x_Ln_fillValues_47, Option.toList_some, Option.toList_none, List.cons_append, List.nil_append, List.length_cons, List.length_nil, Nat.reduceAdd, Nat.zero_add, Nat.reduceLeDiff, true_and]
    refine ⟨⟨by omega, by omega⟩, by decide, ⟨by omega, by omega⟩, ?_⟩
    rw [om_tm0 (by omega)]
    have h := ih (by omega)
    have em : ((m + 1 : Nat) : Int) - 1 = m := by omega
    have e : on_hv (A i) x m (13 - m) = A i m + x * on_hv (A i) x ((m + 1 : Nat) : Int) (13 - (m + 1)) := by
      rw [show 13 - m = (13 - (m + 1)) + 1 by omega]
      rfl
    have e2 : (on_hv (A i) x ((m + 1 : Nat) : Int) (13 - (m + 1)) % 31 * x + A i (((m + 1 : Nat) : Int) - 1)) % 31 = on_hv (A i) x m (13 - m) % 31 := by
      rw [e, em]
      have h3 := on_dmul (u := x) (x := on_hv (A i) x ((m + 1 : Nat) : Int) (13 - (m + 1)) % 31) (y := on_hv (A i) x ((m + 1 : Nat) : Int) (13 - (m + 1))) (by omega)
      rw [Int.mul_comm (on_hv (A i) x ((m + 1 : Nat) : Int) (13 - (m + 1)))] at h3
      omega
    rw [e2, show ((m + 1 : Nat) : Int) - 1 + -1 = (m : Int) - 1 by omega]
    exact h
theorem ln_fv_x {sc : Int × (Int → Int)} {d : Nat} {s : Int} {q : Nat → Int} {Q : Option om_V → om_H → Prop} {a ca : Nat} {i : Int} (hi : 0 ≤ i ∧ i < 5) (ha : om_op (om_O s q) a ca 5 13) (na : ca < 20) {A V : Int → Int → Int} (rA : om_r31 A) (K : (Nat → Int → Int) → Prop) (hK : ∀ I' y z, K I' → om_R sc (d + 1) 80 67 [.inr (.inl 97), .inr (.inl a), .inl i, .inl 17, y, z] [] (om_O s q, I') Q) : ∀ (m : Nat) (x : Int) (y z : om_V) (I : Nat → Int → Int), x + m = 17 → 0 ≤ x → om_tb 5 13 (I ca) = A → (∀ i' x', om_tb 5 17 (I 99) i' x' = if i' = i ∧ 0 ≤ x' ∧ x' < x then on_hv (A i) x' 0 13 % 31 else V i' x') → (∀ I', (∀ b, b ≠ 99 → I' b = I b) → (∀ i' x', om_tb 5 17 (I' 99) i' x' = if i' = i ∧ 0 ≤ x' ∧ x' < 17 then on_hv (A i) x' 0 13 % 31 else V i' x') → K I') → om_R sc (d + 1) 80 9 [.inr (.inl 97), .inr (.inl a), .inl i, .inl x, y, z] [] (om_O s q, I) Q := by
  have gv := om_op_g (oO_98 (s := s) (q := q))
  intro m
  induction m with
  | zero =>
    intro x y z I h1 h2 hA hV hq
    simp only [x_Ln_fillValues_9, x_Ln_fillValues_10, x_Ln_fillValues_12]
    rw [if_pos (by omega)]
    have e : x = 17 := by omega
    subst e
    exact hK I y z (hq I (fun _ _ => rfl) hV)
  | succ m ih =>
    intro x y z I h1 h2 hA hV hq
    simp only [x_Ln_fillValues_9, x_Ln_fillValues_10, x_Ln_fillValues_12]
    rw [if_neg (by omega)]
    simp only [x_Ln_fillValues_15, x_Ln_fillValues_16, x_Ln_fillValues_18, x_Ln_fillValues_20]
    have h := ln_fv_k (sc := sc) (d := d) (s := s) (q := q) (I := I) (Q := Q) (i := i) (x := x) ha rA hA (by omega) ?_ 13 (Nat.le_refl _)
    · exact h
    · simp only [x_Ln_fillValues_50, x_Ln_fillValues_51, x_Ln_fillValues_54, x_Ln_fillValues_55, x_Ln_fillValues_56, x_Ln_fillValues_58, gO_97_1, gv.2.2.2, Option.toList_some, Option.toList_none, List.cons_append, List.nil_append, List.length_cons, List.length_nil, Nat.reduceAdd, Nat.zero_add, Nat.reduceLeDiff, true_and]
      refine op_put oO_98 (fun I1 f1 f2 => ?_)
      simp only [x_Ln_fillValues_61, x_Ln_fillValues_64, Option.toList_some, Option.toList_none, List.cons_append, List.nil_append, List.length_cons, List.length_nil, Nat.reduceAdd, Nat.zero_add, Nat.reduceLeDiff, true_and]
      refine ⟨⟨by omega, by omega⟩, ih _ _ _ I1 (by omega) (by omega) (by rw [f1 ca (by omega)]; exact hA) (fun i' x' => ?_) (fun I' f3 f4 => hq I' (fun b hb => by rw [f3 b hb, f1 b hb]) f4)⟩
      rw [f2 i' x', hV i' x']
      by_cases hc : i' = i ∧ x' = x
      · rw [if_pos ⟨hc, by omega⟩, if_pos (by omega), hc.2]
        omega
      · rw [if_neg (fun w => hc w.1)]
        by_cases hc2 : i' = i ∧ 0 ≤ x' ∧ x' < x
        · rw [if_pos hc2, if_pos (by omega)]
        · rw [if_neg hc2, if_neg (by omega)]
def on_vs (A V : Int → Int → Int) : Prop := ∀ i x, 0 ≤ i → i < 5 → 0 ≤ x → x < 17 → V i x = on_hv (A i) x 0 13 % 31
theorem ln_fv_i {sc : Int × (Int → Int)} {d : Nat} {s : Int} {q : Nat → Int} {Q : Option om_V → om_H → Prop} {a ca : Nat} (ha : om_op (om_O s q) a ca 5 13) (na : ca < 20) {A : Int → Int → Int} (rA : om_r31 A) : ∀ (m : Nat) (i : Int) (w y z : om_V) (I : Nat → Int → Int), i + m = 5 → 0 ≤ i → om_tb 5 13 (I ca) = A → (∀ i' x', 0 ≤ i' → i' < i → 0 ≤ x' → x' < 17 → om_tb 5 17 (I 99) i' x' = on_hv (A i') x' 0 13 % 31) → (∀ I', (∀ b, b ≠ 99 → I' b = I b) → on_vs A (om_tb 5 17 (I' 99)) → Q none (om_O s q, I')) → om_R sc (d + 1) 80 2 [.inr (.inl 97), .inr (.inl a), .inl i, w, y, z] [] (om_O s q, I) Q := by
  intro m
  induction m with
  | zero =>
    intro i w y z I h1 h2 hA hV hq
    simp only [x_Ln_fillValues_2, x_Ln_fillValues_3, x_Ln_fillValues_4, x_Ln_fillValues_73]
    rw [if_pos (by omega)]
    exact hq I (fun _ _ => rfl) (fun i' x' p1 p2 p3 p4 => hV i' x' p1 (by omega) p3 p4)
  | succ m ih =>
    intro i w y z I h1 h2 hA hV hq
    simp only [x_Ln_fillValues_2, x_Ln_fillValues_3, x_Ln_fillValues_4]
    rw [if_neg (by omega)]
    simp only [x_Ln_fillValues_7, x_Ln_fillValues_8]
    refine ln_fv_x (i := i) (by omega) ha na rA (fun I1 => (∀ b, b ≠ 99 → I1 b = I b) ∧ ∀ i' x', om_tb 5 17 (I1 99) i' x' = if i' = i ∧ 0 ≤ x' ∧ x' < 17 then on_hv (A i) x' 0 13 % 31 else om_tb 5 17 (I 99) i' x') (fun I1 y z ⟨g1, g2⟩ => ?_) 17 0 y z I (by omega) (by omega) hA (fun i' x' => by rw [if_neg (by omega)]) (fun I1 f1 f2 => ⟨f1, f2⟩)
    simp only [x_Ln_fillValues_67, x_Ln_fillValues_70, Option.toList_some, Option.toList_none, List.cons_append, List.nil_append, List.length_cons, List.length_nil, Nat.reduceAdd, Nat.zero_add, Nat.reduceLeDiff, true_and]
    refine ⟨⟨by omega, by omega⟩, ih _ _ _ _ I1 (by omega) (by omega) (by rw [g1 ca (by omega)]; exact hA) (fun i' x' p1 p2 p3 p4 => ?_) (fun I' f3 f4 => hq I' (fun b hb => by rw [f3 b hb, g1 b hb]) f4)⟩
    rw [g2 i' x']
    by_cases e : i' = i
    · rw [if_pos ⟨e, p3, p4⟩, e]
    · rw [if_neg (fun w => e w.1)]
      exact hV i' x' p1 (by omega) p3 p4
theorem ln_fillValues {sc : Int × (Int → Int)} {d : Nat} {s : Int} {q : Nat → Int} {I : Nat → Int → Int} {Q : Option om_V → om_H → Prop} {a ca : Nat} (ha : om_op (om_O s q) a ca 5 13) (na : ca < 20) {A : Int → Int → Int} (rA : om_r31 A) (hA : om_tb 5 13 (I ca) = A) (hq : ∀ I', (∀ b, b ≠ 99 → I' b = I b) → on_vs A (om_tb 5 17 (I' 99)) → Q none (om_O s q, I')) : om_R sc (d + 1) 80 0 [.inr (.inl 97), .inr (.inl a), om_un, om_un, om_un, om_un] [] (om_O s q, I) Q := by
  simp only [x_Ln_fillValues_0, x_Ln_fillValues_1]
  exact ln_fv_i ha na rA 5 0 _ _ _ I (by omega) (by omega) hA (fun i' x' p1 p2 => by omega) hq
theorem on_mod3 {a b : Int} (h : (a - b) % 31 = 0) : a % 31 = b % 31 := by omega
theorem ln_rd_l {sc : Int × (Int → Int)} {d : Nat} {s : Int} {q : Nat → Int} {I : Nat → Int → Int} {Q : Option om_V → om_H → Prop} {A : Int → Int → Int} {c e x : Int} (hc : 0 ≤ c ∧ c < 31) (he : 0 ≤ e ∧ e < 31) (hx : 0 ≤ x ∧ x < 17) (hV : on_vs A (om_tb 5 17 (I 99))) (hq : Q (some (.inl (om_sm (fun i => on_hv (A i) x 0 13 * on_n0 c e x i.toNat) 5 % 31))) (om_O s q, I)) : ∀ (m i : Nat) (bef now sum : Int) (y : om_V), i + m = 5 → (0 ≤ bef ∧ bef < 31) → (i ≠ 0 → (bef - on_n0 c e x (i - 1)) % 31 = 0) → (0 ≤ now ∧ now < 31) → (now - on_n0 c e x i) % 31 = 0 → (0 ≤ sum ∧ sum ≤ 900 * i) → (sum - om_sm (fun i => on_hv (A i) x 0 13 * on_n0 c e x i.toNat) i) % 31 = 0 → om_R sc (d + 1) 83 19 [.inr (.inl 97), .inl c, .inl e, .inl x, .inl (c * x + e), .inl bef, .inl now, .inl sum, .inl (i : Int), y] [] (om_O s q, I) Q := by
  have gv := om_op_g (oO_98 (s := s) (q := q))
  obtain ⟨cx1, cx2⟩ := on_mul_b (a := c) (b := x) (X := 30) (Y := 16) (by omega) (by omega)
  intro m
  induction m with
  | zero =>
    intro i bef now sum y h1 hb1 hb2 hn1 hn2 hs1 hs2
    simp only [x_Ln_restOfDerivative_19, x_Ln_restOfDerivative_21, x_Ln_restOfDerivative_22, x_Ln_restOfDerivative_75, x_Ln_restOfDerivative_77, x_Ln_restOfDerivative_79, x_Ln_restOfDerivative_80]
    rw [if_pos (by omega)]
    refine ⟨by decide, ?_⟩
    rw [om_tm0 hs1.1]
    have e5 : i = 5 := by omega
    subst e5
    rw [on_mod3 hs2]
    exact hq
  | succ m ih =>
    intro i bef now sum y h1 hb1 hb2 hn1 hn2 hs1 hs2
    simp only [x_Ln_restOfDerivative_19, x_Ln_restOfDerivative_21, x_Ln_restOfDerivative_22]
    rw [if_neg (by omega)]
    simp only [x_Ln_restOfDerivative_25, x_Ln_restOfDerivative_27, x_Ln_restOfDerivative_28, x_Ln_restOfDerivative_31, x_Ln_restOfDerivative_33, x_Ln_restOfDerivative_34, gO_97_1, gv.2.2.2, Option.toList_some, Option.toList_none, List.cons_append, List.nil_append, List.length_cons, List.length_nil, Nat.reduceAdd, Nat.zero_add, Nat.reduceLeDiff, true_and]
    refine op_get oO_98 ?_
    rw [hV i x (by omega) (by omega) hx.1 hx.2]
    obtain ⟨p1, p2⟩ := on_mul_b (a := on_hv (A i) x 0 13 % 31) (b := now) (X := 30) (Y := 30) (by omega) (by omega)
    obtain ⟨p3, p4⟩ := on_mul_b (a := c * x + e) (b := now) (X := 510) (Y := 30) (by omega) (by omega)
    obtain ⟨p5, p6⟩ := on_mul_b (a := (i : Int)) (b := c) (X := 4) (Y := 30) (by omega) (by omega)
    obtain ⟨p7, p8⟩ := on_mul_b (a := (i : Int) * c) (b := bef) (X := 120) (Y := 30) (by omega) (by omega)
    simp only [x_Ln_restOfDerivative_37, x_Ln_restOfDerivative_39, x_Ln_restOfDerivative_40, x_Ln_restOfDerivative_41, x_Ln_restOfDerivative_43, x_Ln_restOfDerivative_45, x_Ln_restOfDerivative_47, x_Ln_restOfDerivative_48, x_Ln_restOfDerivative_50, x_Ln_restOfDerivative_51, x_Ln_restOfDerivative_52, x_Ln_restOfDerivative_54, x_Ln_restOfDerivative_55, x_Ln_restOfDerivative_56, x_Ln_restOfDerivative_58, x_Ln_restOfDerivative_59, x_Ln_restOfDerivative_61, x_Ln_restOfDerivative_63, x_Ln_restOfDerivative_65, x_Ln_restOfDerivative_67, x_Ln_restOfDerivative_69, x_Ln_restOfDerivative_72, Option.toList_some, Option.toList_none, List.cons_append, List.nil_append, List.length_cons, List.length_nil, Nat.reduceAdd, Nat.zero_add, Nat.reduceLeDiff, true_and]
    refine ⟨⟨by omega, by omega⟩, ⟨by omega, by omega⟩, ⟨by omega, by omega⟩, ⟨by omega, by omega⟩, ⟨by omega, by omega⟩, ⟨by omega, by omega⟩, by decide, ⟨by omega, by omega⟩, ?_⟩
    rw [om_tm0 (by omega)]
    have h := ih (i + 1) now (((c * x + e) * now + i * c * bef) % 31) (sum + on_hv (A i) x 0 13 % 31 * now) (.inl (((c * x + e) * now + i * c * bef) % 31)) (by omega) hn1 (fun _ => hn2) (by omega) ?_ (by omega) ?_
    · simpa using h
    · cases i with
      | zero =>
        show (((c * x + e) * now + ((0 : Nat) : Int) * c * bef) % 31 - (c * x + e)) % 31 = 0
        have q1 := on_dmul (u := c * x + e) (x := now) (y := 1) hn2
        rw [Int.mul_comm now, Int.one_mul] at q1
        have q2 : ((0 : Nat) : Int) * c * bef = 0 := by simp
        omega
      | succ i =>
        show (((c * x + e) * now + ((i + 1 : Nat) : Int) * c * bef) % 31 - ((c * x + e) * on_n0 c e x (i + 1) + ((i : Int) + 1) * c * on_n0 c e x i)) % 31 = 0
        have q1 := on_dmul (u := c * x + e) hn2
        have q2 := on_dmul (u := ((i : Int) + 1) * c) (hb2 (by omega))
        rw [Nat.add_sub_cancel] at q2
        rw [Int.mul_comm now, Int.mul_comm (on_n0 c e x (i + 1))] at q1
        rw [Int.mul_comm bef, Int.mul_comm (on_n0 c e x i)] at q2
        rw [show ((i + 1 : Nat) : Int) = (i : Int) + 1 by omega]
        omega
    · show (sum + on_hv (A i) x 0 13 % 31 * now - (om_sm (fun i => on_hv (A i) x 0 13 * on_n0 c e x i.toNat) i + on_hv (A i) x 0 13 * on_n0 c e x (i : Int).toNat)) % 31 = 0
      rw [Int.toNat_natCast]
      have q1 := on_dmul (u := now) (x := on_hv (A i) x 0 13 % 31) (y := on_hv (A i) x 0 13) (by omega)
      have q2 := on_dmul (u := on_hv (A i) x 0 13) hn2
      rw [Int.mul_comm now, Int.mul_comm (on_n0 c e x i)] at q2
      omega
theorem ln_restOfDerivative {sc : Int × (Int → Int)} {d : Nat} {s : Int} {q : Nat → Int} {I : Nat → Int → Int} {Q : Option om_V → om_H → Prop} {A : Int → Int → Int} {c e x : Int} (hc : 0 ≤ c ∧ c < 31) (he : 0 ≤ e ∧ e < 31) (hx : 0 ≤ x ∧ x < 17) (hV : on_vs A (om_tb 5 17 (I 99))) (hq : Q (some (.inl (om_sm (fun i => on_hv (A i) x 0 13 * on_n0 c e x i.toNat) 5 % 31))) (om_O s q, I)) : om_R sc (d + 1) 83 0 [.inr (.inl 97), .inl c, .inl e, .inl x, om_un, om_un, om_un, om_un, om_un, om_un] [] (om_O s q, I) Q := by
  obtain ⟨cx1, cx2⟩ := on_mul_b (a := c) (b := x) (X := 30) (Y := 16) (by omega) (by omega)
  simp only [x_Ln_restOfDerivative_0, x_Ln_restOfDerivative_1, x_Ln_restOfDerivative_2, x_Ln_restOfDerivative_3, x_Ln_restOfDerivative_4, x_Ln_restOfDerivative_5, x_Ln_restOfDerivative_7, x_Ln_restOfDerivative_8, x_Ln_restOfDerivative_10, x_Ln_restOfDerivative_11, x_Ln_restOfDerivative_13, x_Ln_restOfDerivative_14, x_Ln_restOfDerivative_16, x_Ln_restOfDerivative_17]
  refine ⟨⟨by omega, by omega⟩, ⟨by omega, by omega⟩, ?_⟩
  exact ln_rd_l hc he hx hV hq 5 0 0 1 0 _ rfl (by decide) (fun h => absurd rfl h) (by decide) rfl (by decide) rfl
theorem ln_rs_l {sc : Int × (Int → Int)} {d : Nat} {s : Int} {q : Nat → Int} {I : Nat → Int → Int} {Q : Option om_V → om_H → Prop} {A : Int → Int → Int} {c e x : Int} (hc : 0 ≤ c ∧ c < 31) (he : 0 ≤ e ∧ e < 31) (hx : 0 ≤ x ∧ x < 17) (hV : on_vs A (om_tb 5 17 (I 99))) (hq : Q (some (.inl (om_sm (fun i => on_hv (A i) x 0 13 * on_n1 c e x i.toNat) 5 % 31))) (om_O s q, I)) : ∀ (m i : Nat) (now sum : Int), i + m = 5 → (0 ≤ now ∧ now < 31) → (now - on_n1 c e x i) % 31 = 0 → (0 ≤ sum ∧ sum ≤ 900 * i) → (sum - om_sm (fun i => on_hv (A i) x 0 13 * on_n1 c e x i.toNat) i) % 31 = 0 → om_R sc (d + 1) 82 9 [.inr (.inl 97), .inl c, .inl e, .inl x, .inl now, .inl sum, .inl (i : Int)] [] (om_O s q, I) Q := by
  have gv := om_op_g (oO_98 (s := s) (q := q))
  intro m
  induction m with
  | zero =>
    intro i now sum h1 hn1 hn2 hs1 hs2
    simp only [x_Ln_restOfShift_9, x_Ln_restOfShift_11, x_Ln_restOfShift_12, x_Ln_restOfShift_55, x_Ln_restOfShift_57, x_Ln_restOfShift_59, x_Ln_restOfShift_60]
    rw [if_pos (by omega)]
    refine ⟨by decide, ?_⟩
    rw [om_tm0 hs1.1]
    have e5 : i = 5 := by omega
    subst e5
    rw [on_mod3 hs2]
    exact hq
  | succ m ih =>
    intro i now sum h1 hn1 hn2 hs1 hs2
    simp only [x_Ln_restOfShift_9, x_Ln_restOfShift_11, x_Ln_restOfShift_12]
    rw [if_neg (by omega)]
    simp only [x_Ln_restOfShift_15, x_Ln_restOfShift_17, x_Ln_restOfShift_18, x_Ln_restOfShift_21, x_Ln_restOfShift_23, x_Ln_restOfShift_24, gO_97_1, gv.2.2.2, Option.toList_some, Option.toList_none, List.cons_append, List.nil_append, List.length_cons, List.length_nil, Nat.reduceAdd, Nat.zero_add, Nat.reduceLeDiff, true_and]
    refine op_get oO_98 ?_
    rw [hV i x (by omega) (by omega) hx.1 hx.2]
    obtain ⟨p1, p2⟩ := on_mul_b (a := on_hv (A i) x 0 13 % 31) (b := now) (X := 30) (Y := 30) (by omega) (by omega)
    obtain ⟨p3, p4⟩ := on_mul_b (a := c) (b := x + i) (X := 30) (Y := 20) (by omega) (by omega)
    obtain ⟨p5, p6⟩ := on_mul_b (a := now) (b := c * (x + i) + e) (X := 30) (Y := 630) (by omega) (by omega)
    simp only [x_Ln_restOfShift_27, x_Ln_restOfShift_29, x_Ln_restOfShift_30, x_Ln_restOfShift_31, x_Ln_restOfShift_33, x_Ln_restOfShift_35, x_Ln_restOfShift_36, x_Ln_restOfShift_37, x_Ln_restOfShift_39, x_Ln_restOfShift_40, x_Ln_restOfShift_41, x_Ln_restOfShift_42, x_Ln_restOfShift_43, x_Ln_restOfShift_44, x_Ln_restOfShift_46, x_Ln_restOfShift_47, x_Ln_restOfShift_49, x_Ln_restOfShift_52, Option.toList_some, Option.toList_none, List.cons_append, List.nil_append, List.length_cons, List.length_nil, Nat.reduceAdd, Nat.zero_add, Nat.reduceLeDiff, true_and]
    refine ⟨⟨by omega, by omega⟩, ⟨by omega, by omega⟩, ⟨by omega, by omega⟩, ⟨by omega, by omega⟩, ⟨by omega, by omega⟩, ⟨by omega, by omega⟩, by decide, ⟨by omega, by omega⟩, ?_⟩
    rw [om_tm0 (by omega)]
    have h := ih (i + 1) ((now * (c * (x + i) + e)) % 31) (sum + on_hv (A i) x 0 13 % 31 * now) (by omega) (by omega) ?_ (by omega) ?_
    · simpa using h
    · show ((now * (c * (x + i) + e)) % 31 - on_n1 c e x i * (c * (x + i) + e)) % 31 = 0
      have q1 := on_dmul (u := c * (x + i) + e) hn2
      omega
    · show (sum + on_hv (A i) x 0 13 % 31 * now - (om_sm (fun i => on_hv (A i) x 0 13 * on_n1 c e x i.toNat) i + on_hv (A i) x 0 13 * on_n1 c e x (i : Int).toNat)) % 31 = 0
      rw [Int.toNat_natCast]
      have q1 := on_dmul (u := now) (x := on_hv (A i) x 0 13 % 31) (y := on_hv (A i) x 0 13) (by omega)
      have q2 := on_dmul (u := on_hv (A i) x 0 13) hn2
      rw [Int.mul_comm now, Int.mul_comm (on_n1 c e x i)] at q2
      omega
theorem ln_restOfShift {sc : Int × (Int → Int)} {d : Nat} {s : Int} {q : Nat → Int} {I : Nat → Int → Int} {Q : Option om_V → om_H → Prop} {A : Int → Int → Int} {c e x : Int} (hc : 0 ≤ c ∧ c < 31) (he : 0 ≤ e ∧ e < 31) (hx : 0 ≤ x ∧ x < 17) (hV : on_vs A (om_tb 5 17 (I 99))) (hq : Q (some (.inl (om_sm (fun i => on_hv (A i) x 0 13 * on_n1 c e x i.toNat) 5 % 31))) (om_O s q, I)) : om_R sc (d + 1) 82 0 [.inr (.inl 97), .inl c, .inl e, .inl x, om_un, om_un, om_un] [] (om_O s q, I) Q := by
  simp only [x_Ln_restOfShift_0, x_Ln_restOfShift_1, x_Ln_restOfShift_3, x_Ln_restOfShift_4, x_Ln_restOfShift_6, x_Ln_restOfShift_7]
  exact ln_rs_l hc he hx hV hq 5 0 1 0 rfl (by decide) rfl (by decide) rfl
theorem ln_ln_l {sc : Int × (Int → Int)} {d : Nat} {s : Int} {q : Nat → Int} {I : Nat → Int → Int} {Q : Option om_V → om_H → Prop} {A : Int → Int → Int} {c e : Int} (hs : s = 0 ∨ s = 1) (hc : 0 ≤ c ∧ c < 31) (he : 0 ≤ e ∧ e < 31) (hV : on_vs A (om_tb 5 17 (I 99))) (h1 : on_fac s A c e → Q (some (.inl 1)) (om_O s q, I)) (h0 : ¬ on_fac s A c e → Q (some (.inl 0)) (om_O s q, I)) : ∀ (m : Nat) (x : Int) (y : om_V), x + m = 17 → 0 ≤ x → (∀ x', 0 ≤ x' → x' < x → on_rs s A c e x' % 31 = 0) → om_R sc (d + 2) 81 2 [.inr (.inl 97), .inl c, .inl e, .inl x, y] [] (om_O s q, I) Q := by
  have n10 : ¬ (1 : Int) = 0 := by decide
  intro m
  induction m with
  | zero =>
    intro x y e1 e2 hz
    simp only [x_Ln_leavesNothing_2, x_Ln_leavesNothing_3, x_Ln_leavesNothing_5, x_Ln_leavesNothing_50, x_Ln_leavesNothing_51]
    rw [if_pos (by omega)]
    exact ⟨by decide, h1 (fun x' a b => hz x' a (by omega))⟩
  | succ m ih =>
    intro x y e1 e2 hz
    have rest : om_R sc (d + 2) 81 35 [.inr (.inl 97), .inl c, .inl e, .inl x, y] [.inl (on_rs s A c e x % 31)] (om_O s q, I) Q := by
      simp only [x_Ln_leavesNothing_35, x_Ln_leavesNothing_37, x_Ln_leavesNothing_39, x_Ln_leavesNothing_42, x_Ln_leavesNothing_43, x_Ln_leavesNothing_44, x_Ln_leavesNothing_47]
      by_cases hr : on_rs s A c e x % 31 = 0
      · rw [if_pos hr]
        refine ⟨⟨by omega, by omega⟩, ih _ _ (by omega) (by omega) (fun x' a b => ?_)⟩
        by_cases e : x' = x
        · rw [e]; exact hr
        · exact hz x' a (by omega)
      · rw [if_neg hr]
        exact ⟨by decide, h0 (fun h => hr (h x e2 (by omega)))⟩
    simp only [x_Ln_leavesNothing_2, x_Ln_leavesNothing_3, x_Ln_leavesNothing_5]
    rw [if_neg (by omega)]
    rcases hs with hs0 | hs1
    · subst hs0
      simp only [x_Ln_leavesNothing_8, x_Ln_leavesNothing_9, x_Ln_leavesNothing_12, x_Ln_leavesNothing_15, x_Ln_leavesNothing_28, x_Ln_leavesNothing_29, x_Ln_leavesNothing_30, x_Ln_leavesNothing_31, x_Ln_leavesNothing_32, gO_97_0, gO_20_0, rO_97, Option.toList_some, Option.toList_none, List.cons_append, List.nil_append, List.length_cons, List.length_nil, Nat.reduceAdd, Nat.zero_add, Nat.reduceLeDiff, true_and, if_true]
      exact ln_restOfDerivative hc he (by omega) hV rest
    · subst hs1
      simp only [x_Ln_leavesNothing_8, x_Ln_leavesNothing_9, x_Ln_leavesNothing_12, x_Ln_leavesNothing_15, x_Ln_leavesNothing_18, x_Ln_leavesNothing_19, x_Ln_leavesNothing_20, x_Ln_leavesNothing_21, x_Ln_leavesNothing_22, gO_97_0, gO_20_0, rO_97, Option.toList_some, Option.toList_none, List.cons_append, List.nil_append, List.length_cons, List.length_nil, Nat.reduceAdd, Nat.zero_add, Nat.reduceLeDiff, true_and, if_neg n10]
      refine ln_restOfShift hc he (by omega) hV ?_
      simp only [x_Ln_leavesNothing_25, Option.toList_some, Option.toList_none, List.cons_append, List.nil_append, List.length_cons, List.length_nil, Nat.reduceAdd, Nat.zero_add, Nat.reduceLeDiff, true_and]
      exact rest
theorem ln_leavesNothing {sc : Int × (Int → Int)} {d : Nat} {s : Int} {q : Nat → Int} {I : Nat → Int → Int} {Q : Option om_V → om_H → Prop} {A : Int → Int → Int} {c e : Int} (hs : s = 0 ∨ s = 1) (hc : 0 ≤ c ∧ c < 31) (he : 0 ≤ e ∧ e < 31) (hV : on_vs A (om_tb 5 17 (I 99))) (h1 : on_fac s A c e → Q (some (.inl 1)) (om_O s q, I)) (h0 : ¬ on_fac s A c e → Q (some (.inl 0)) (om_O s q, I)) : om_R sc (d + 2) 81 0 [.inr (.inl 97), .inl c, .inl e, om_un, om_un] [] (om_O s q, I) Q := by
  simp only [x_Ln_leavesNothing_0, x_Ln_leavesNothing_1]
  exact ln_ln_l hs hc he hV h1 h0 17 0 _ (by omega) (by omega) (fun x' a b => by omega)
theorem on_ct_b {f : Int → Int} : ∀ n : Nat, 0 ≤ om_ct f n ∧ om_ct f n ≤ n
  | 0 => by simp [om_ct]
  | n + 1 => by
    have := on_ct_b (f := f) n
    unfold om_ct
    split <;> omega
theorem on_ct_le {f : Int → Int} {m : Nat} : ∀ n : Nat, m ≤ n → om_ct f m ≤ om_ct f n
  | 0, h => by rw [show m = 0 by omega]; exact Int.le_refl _
  | n + 1, h => by
    by_cases e : m = n + 1
    · rw [e]; exact Int.le_refl _
    · have := on_ct_le (f := f) n (show m ≤ n by omega)
      show _ ≤ om_ct f n + (if f n = 0 then 0 else 1)
      split <;> omega
theorem on_ct_lt {f : Int → Int} {m n : Nat} (h : m < n) (hp : f m ≠ 0) : om_ct f m < om_ct f n := by
  have := on_ct_le (f := f) n (show m + 1 ≤ n by omega)
  have e : om_ct f (m + 1) = om_ct f m + 1 := by
    show om_ct f m + (if f m = 0 then 0 else 1) = _
    rw [if_neg hp]
  omega
theorem on_ct_c {f g : Int → Int} : ∀ {n : Nat}, (∀ k : Int, 0 ≤ k → k < n → f k = g k) → om_ct f n = om_ct g n
  | 0, _ => rfl
  | n + 1, h => by
    show om_ct f n + (if f n = 0 then 0 else 1) = om_ct g n + (if g n = 0 then 0 else 1)
    rw [on_ct_c (fun k a b => h k a (by omega)), h n (by omega) (by omega)]
theorem ln_se_l {sc : Int × (Int → Int)} {d : Nat} {s : Int} {q : Nat → Int} {Q : Option om_V → om_H → Prop} {a : Nat} {A : Int → Int → Int} (hs : s = 0 ∨ s = 1) : ∀ (m k : Nat) (I : Nat → Int → Int), k + m = 961 → on_vs A (om_tb 5 17 (I 99)) → (∀ j : Nat, j < k → on_fl s A j ≠ 0 → I 100 (om_ct (on_fl s A) j) = (j : Int)) → (∀ I', (∀ b, b ≠ 100 → I' b = I b) → (∀ j : Nat, j < 961 → on_fl s A j ≠ 0 → I' 100 (om_ct (on_fl s A) j) = (j : Int)) → Q none (om_O s (om_qs q 6 (om_ct (on_fl s A) 961)), I')) → om_R sc (d + 3) 79 12 [.inr (.inl 97), .inr (.inl a), .inl (k : Int)] [] (om_O s (om_qs q 6 (om_ct (on_fl s A) k)), I) Q := by
  have n10 : ¬ (1 : Int) = 0 := by decide
  intro m
  induction m with
  | zero =>
    intro k I h1 hV hI hq
    simp only [x_Ln_search_12, x_Ln_search_13, x_Ln_search_16, x_Ln_search_60]
    rw [if_pos (by omega)]
    have e : k = 961 := by omega
    subst e
    exact hq I (fun _ _ => rfl) hI
  | succ m ih =>
    intro k I h1 hV hI hq
    have cb := on_ct_b (f := on_fl s A) k
    have e1 : om_ct (on_fl s A) (k + 1) = om_ct (on_fl s A) k + (if on_fl s A k = 0 then 0 else 1) := rfl
    simp only [x_Ln_search_12, x_Ln_search_13, x_Ln_search_16]
    rw [if_neg (by omega)]
    have et : Int.tdiv (k : Int) 31 = (k : Int) / 31 := Int.tdiv_eq_ediv_of_nonneg (by omega)
    simp only [x_Ln_search_19, x_Ln_search_20, x_Ln_search_21, x_Ln_search_23, x_Ln_search_24, x_Ln_search_25, x_Ln_search_27, x_Ln_search_28, rO_97, om_tm0 (show (0 : Int) ≤ (k : Int) by omega), et, Option.toList_some, Option.toList_none, List.cons_append, List.nil_append, List.length_cons, List.length_nil, Nat.reduceAdd, Nat.zero_add, Nat.reduceLeDiff, true_and]
    refine ⟨by decide, by decide, ?_⟩
    refine ln_leavesNothing hs (by omega) (by omega) hV (fun hf => ?_) (fun hf => ?_)
    · have f1 := on_fl_1 hf
      rw [f1, if_neg n10] at e1
      simp only [x_Ln_search_31, x_Ln_search_34, x_Ln_search_35, x_Ln_search_38, x_Ln_search_39, x_Ln_search_42, x_Ln_search_43, x_Ln_search_44, x_Ln_search_45, x_Ln_search_46, x_Ln_search_49, x_Ln_search_50, x_Ln_search_51, x_Ln_search_54, x_Ln_search_57, if_neg n10, gO_97_2, gO_97_3, om_qs_eq, aO_100, pO_97_3 79 (om_ct (on_fl s A) k + 1) rfl, on_qs2, Option.toList_some, Option.toList_none, List.cons_append, List.nil_append, List.length_cons, List.length_nil, Nat.reduceAdd, Nat.zero_add, Nat.reduceLeDiff, true_and]
      refine ⟨by omega, ⟨by omega, by omega⟩, ⟨by omega, by omega⟩, ?_⟩
      have h := ih (k + 1) (om_u I 100 (om_p (I 100) (om_ct (on_fl s A) k) k)) (by omega) (by rw [om_u_ne (by decide)]; exact hV) (fun j hj hn => by
        rw [om_u_eq]
        by_cases e : j = k
        · rw [e, om_p_eq]
        · have := on_ct_lt (f := on_fl s A) (show j < k by omega) hn
          rw [om_p_ne (by omega)]
          exact hI j (by omega) hn) (fun I' f2 f3 => hq I' (fun b hb => by rw [f2 b hb, om_u_ne hb]) f3)
      rw [e1] at h
      simpa using h
    · have f1 := on_fl_0 hf
      rw [f1, if_pos rfl, Int.add_zero] at e1
      simp only [x_Ln_search_31, x_Ln_search_54, x_Ln_search_57, if_true, Option.toList_some, Option.toList_none, List.cons_append, List.nil_append, List.length_cons, List.length_nil, Nat.reduceAdd, Nat.zero_add, Nat.reduceLeDiff, true_and]
      refine ⟨⟨by omega, by omega⟩, ?_⟩
      have h := ih (k + 1) I (by omega) hV (fun j hj hn => by
        by_cases e : j = k
        · rw [e] at hn
          exact absurd f1 hn
        · exact hI j (by omega) hn) hq
      rw [e1] at h
      simpa using h
theorem or_factor {sc : Int × (Int → Int)} {d : Nat} {s : Int} {q : Nat → Int} {I : Nat → Int → Int} {Q : Option om_V → om_H → Prop} {a : Int} (hs : s = 0 ∨ s = 1) (rA : ∀ r, 0 ≤ r → r < 8 → om_r31 (om_cr I r)) (h0 : ¬ (0 ≤ a ∧ a < 8) → Q (some (.inl (-1))) (om_O s q, I)) (h5 : 0 ≤ a ∧ a < 8 → om_or 5 13 (om_cr I a) < 0 → Q (some (.inl (-5))) (om_O s q, I)) (h1 : 0 ≤ a ∧ a < 8 → 0 ≤ om_or 5 13 (om_cr I a) → ∀ I', (∀ b, b ≠ 99 → b ≠ 100 → I' b = I b) → (∀ j : Nat, j < 961 → on_fl s (om_cr I a) j ≠ 0 → I' 100 (om_ct (on_fl s (om_cr I a)) j) = (j : Int)) → Q (some (.inl (om_ct (on_fl s (om_cr I a)) 961))) (om_O s (om_qs q 6 (om_ct (on_fl s (om_cr I a)) 961)), I')) : om_R sc (d + 4) 78 0 [.inr (.inl 0), .inl a] [] (om_O s q, I) Q := by
  have n10 : ¬ (1 : Int) = 0 := by decide
  simp only [x_Or_factor_0, x_Or_factor_1, Option.toList_some, Option.toList_none, List.cons_append, List.nil_append, List.length_cons, List.length_nil, Nat.reduceAdd, Nat.zero_add, Nat.reduceLeDiff, true_and]
  refine or_isRegister (fun hr => ?_) (fun hr => ?_)
  · have ga := (om_op_g (or_reg (s := s) (q := q) hr)).2.2.2
    simp only [x_Or_factor_4, x_Or_factor_7, x_Or_factor_8, x_Or_factor_9, x_Or_factor_10, x_Or_factor_13, x_Or_factor_14, x_Or_factor_15, Option.toList_some, Option.toList_none, List.cons_append, List.nil_append, List.length_cons, List.length_nil, Nat.reduceAdd, Nat.zero_add, Nat.reduceLeDiff, true_and, if_neg n10, gO_0_0, kO_reg hr.1 hr.2, ga]
    refine op_topOrder (or_reg hr) ?_
    have eA : om_tb 5 13 (I (om_ca a)) = om_cr I a := rfl
    rw [eA]
    simp only [x_Or_factor_18, Option.toList_some, Option.toList_none, List.cons_append, List.nil_append, List.length_cons, List.length_nil, Nat.reduceAdd, Nat.zero_add, Nat.reduceLeDiff, true_and]
    by_cases ho : 0 ≤ om_or 5 13 (om_cr I a)
    · rw [if_pos ho]
      simp only [x_Or_factor_24, x_Or_factor_25, x_Or_factor_28, x_Or_factor_29, x_Or_factor_32, x_Or_factor_33, x_Or_factor_34, Option.toList_some, Option.toList_none, List.cons_append, List.nil_append, List.length_cons, List.length_nil, Nat.reduceAdd, Nat.zero_add, Nat.reduceLeDiff, true_and, gO_0_0, gO_0_6, kO_reg hr.1 hr.2, rO_97]
      simp only [x_Ln_search_0, x_Ln_search_1, x_Ln_search_2, rO_97, Option.toList_some, Option.toList_none, List.cons_append, List.nil_append, List.length_cons, List.length_nil, Nat.reduceAdd, Nat.zero_add, Nat.reduceLeDiff, true_and]
      refine ln_fillValues (or_reg hr) (by unfold om_ca; omega) (rA a hr.1 hr.2) rfl (fun I1 f1 f2 => ?_)
      simp only [x_Ln_search_5, x_Ln_search_6, x_Ln_search_7, x_Ln_search_10, x_Ln_search_11, pO_97_3 79 0 rfl, Option.toList_some, Option.toList_none, List.cons_append, List.nil_append, List.length_cons, List.length_nil, Nat.reduceAdd, Nat.zero_add, Nat.reduceLeDiff, true_and]
      have h := ln_se_l (sc := sc) (d := d) (s := s) (q := q) (a := 4 + 2 * a.toNat) (Q := fun v h' => om_R sc (d + 3 + 1) 78 37 [.inr (.inl 0), .inl a] v.toList h' Q) (A := om_cr I a) hs 961 0 I1 rfl f2 (fun j hj => by omega) (fun I' f3 f4 => ?_)
      · simpa [om_ct] using h
      · simp only [x_Or_factor_37, x_Or_factor_38, x_Or_factor_41, x_Or_factor_44, Option.toList_some, Option.toList_none, List.cons_append, List.nil_append, List.length_cons, List.length_nil, Nat.reduceAdd, Nat.zero_add, Nat.reduceLeDiff, true_and, gO_0_6, gO_97_3, om_qs_eq]
        exact h1 hr ho I' (fun b b1 b2 => by rw [f3 b b2, f1 b b1]) f4
    · rw [if_neg ho]
      simp only [x_Or_factor_21, x_Or_factor_23]
      exact h5 hr (by omega)
  · simp only [x_Or_factor_4, x_Or_factor_7, x_Or_factor_8, Option.toList_some, Option.toList_none, List.cons_append, List.nil_append, List.length_cons, List.length_nil, Nat.reduceAdd, Nat.zero_add, Nat.reduceLeDiff, true_and, if_true]
    exact h0 hr
