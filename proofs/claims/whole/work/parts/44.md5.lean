/-! the reference: products and images -/
def om_f2 (I I' : Nat → Int → Int) (t u : Int) : Prop := (∀ b, b ≠ 103 → I' b = I b) ∧ ∀ t', t' ≠ t → t' ≠ u → om_mt I' t' = om_mt I t'
theorem om_f2_rf {I : Nat → Int → Int} {t u : Int} : om_f2 I I t u := ⟨fun _ _ => rfl, fun _ _ _ => rfl⟩
theorem om_f2_tr {I I1 I2 : Nat → Int → Int} {t u : Int} (h1 : om_f2 I I1 t u) (h2 : om_f2 I1 I2 t u) : om_f2 I I2 t u := ⟨fun b hb => by rw [h2.1 b hb, h1.1 b hb], fun t' a b => by rw [h2.2 t' a b, h1.2 t' a b]⟩
theorem om_f2_l {I I' : Nat → Int → Int} {t u : Int} (h : om_fr I I' t) : om_f2 I I' t u := ⟨h.1, fun t' a _ => h.2 t' a⟩
theorem om_f2_r {I I' : Nat → Int → Int} {t u : Int} (h : om_fr I I' u) : om_f2 I I' t u := ⟨h.1, fun t' _ b => h.2 t' b⟩
theorem om_cv1 {p : Int → Int} {W : Int → Int → Int} {tm j k : Int} : om_sm (fun a => (p a * tm) * W j (k - a)) 64 = tm * om_cv p W j k := by
  unfold om_cv
  have : ∀ n : Nat, om_sm (fun a => (p a * tm) * W j (k - a)) n = tm * om_sm (fun q => p q * W j (k - q)) n := by
    intro n
    induction n with
    | zero => simp [om_sm]
    | succ n ih =>
      show om_sm _ n + (p n * tm) * W j (k - n) = tm * (om_sm _ n + p n * W j (k - n))
      rw [ih, Int.mul_add]
      congr 1
      rw [Int.mul_comm (p n) tm, Int.mul_assoc]
  exact this 64
/-- a row of sums of products, all rows from j on: what 'for j' does -/
theorem om_cv_row {R X : Int → Int → Int} {p : Int → Int} (rR : om_r31 R) (hX : ∀ j k, ¬ (0 ≤ j ∧ j < 9) → X j k = 0) (hR : om_su 9 64 R) (hp : ∀ q, ¬ (0 ≤ q ∧ q < 64) → p q = 0) {w w' : Int} (hpw : ∀ q, ¬ (0 ≤ q ∧ q < w) → p q = 0) (hXw : om_su 9 w' X) (hw : w + w' ≤ 65) (j k : Int) (hn : ¬ (0 ≤ j ∧ j < 9 ∧ 0 ≤ k ∧ k < 64)) : (R j k + om_cv p X j k) % 31 = 0 := by
  rw [hR j k hn, om_cv_o hpw hXw j k (by omega)]
  rfl
theorem md_mulT_j {sc : Int × (Int → Int)} {d : Nat} {s : Int} {q : Nat → Int} {Q : Option om_V → om_H → Prop} {a b t x n i : Int} (ha : 0 ≤ a ∧ a < 6) (ht : 0 ≤ t ∧ t < 6) (hx : 0 ≤ x ∧ x < 6) (nat : a ≠ t) (nxt : x ≠ t) (hi : 0 ≤ i ∧ i < 9) {A X R : Int → Int → Int} (rA : om_r31 A) (rX : om_r31 X) (rR : om_r31 R) (suX : om_su 9 64 X) (suR : om_su 9 64 R) (K : (Nat → Int → Int) → Prop) (hK : ∀ I', K I' → om_R sc (d + 3) 116 71 [.inr (.inl 101), .inl a, .inl b, .inl t, .inl x, .inl n, .inl i, .inl 9] [] (om_O s q, I') Q) : ∀ (m : Nat) (j : Int) (I : Nat → Int → Int), j + m = 9 → 0 ≤ j → om_mt I a = A → om_mt I x = X → (∀ j' k', om_mt I t j' k' = if 0 ≤ j' ∧ j' < j ∧ 0 ≤ k' ∧ k' < 64 then (R j' k' + om_cv (A i) X j' k') % 31 else R j' k') → (∀ I', om_fr I I' t → (∀ j' k', om_mt I' t j' k' = if 0 ≤ j' ∧ j' < 9 ∧ 0 ≤ k' ∧ k' < 64 then (R j' k' + om_cv (A i) X j' k') % 31 else 0) → K I') → om_R sc (d + 3) 116 32 [.inr (.inl 101), .inl a, .inl b, .inl t, .inl x, .inl n, .inl i, .inl j] [] (om_O s q, I) Q := by
  intro m
  induction m with
  | zero =>
    intro j I h1 h2 hA hX hI hq
    simp only [x_Md_multiplyTables_32, x_Md_multiplyTables_34, x_Md_multiplyTables_36]
    rw [if_pos (by omega)]
    have hj : j = 9 := by omega
    subst hj
    refine hK I (hq I om_fr_rf (fun j' k' => ?_))
    rw [hI j' k']
    split
    · rfl
    · rename_i hn
      exact suR j' k' hn
  | succ m ih =>
    intro j I h1 h2 hA hX hI hq
    simp only [x_Md_multiplyTables_32, x_Md_multiplyTables_34, x_Md_multiplyTables_36]
    rw [if_neg (by omega)]
    simp only [x_Md_multiplyTables_39, x_Md_multiplyTables_40, x_Md_multiplyTables_42, x_Md_multiplyTables_44, rO_101, Option.toList_some, Option.toList_none, List.cons_append, List.nil_append, List.length_cons, List.length_nil, Nat.reduceAdd, Nat.zero_add, Nat.reduceLeDiff, true_and]
    refine md_degree hx (by omega) ?_
    rw [hX]
    simp only [x_Md_multiplyTables_47, Option.toList_some, Option.toList_none, List.cons_append, List.nil_append, List.length_cons, List.length_nil, Nat.reduceAdd, Nat.zero_add, Nat.reduceLeDiff, true_and]
    by_cases hz : om_dg 64 X j < 0
    · rw [if_pos hz]
      simp only [x_Md_multiplyTables_65, x_Md_multiplyTables_68]
      have hz0 := om_dg_n.mp hz
      refine ⟨⟨by omega, by omega⟩, ih _ _ (by omega) (by omega) hA hX (fun j' k' => ?_) hq⟩
      rw [hI j' k']
      by_cases hc : 0 ≤ j' ∧ j' < j ∧ 0 ≤ k' ∧ k' < 64
      · rw [if_pos hc, if_pos (by omega)]
      · rw [if_neg hc]
        by_cases hc2 : 0 ≤ j' ∧ j' < j + 1 ∧ 0 ≤ k' ∧ k' < 64
        · rw [if_pos hc2]
          have e : om_cv (A i) X j' k' = 0 := om_sm_0 (fun q _ _ => by
            show A i q * X j' (k' - q) = 0
            have hj : j' = j := by omega
            rw [hj]
            by_cases hk : 0 ≤ k' - q ∧ k' - q < 64
            · rw [hz0 (k' - q) hk.1 hk.2, Int.mul_zero]
            · rw [suX j (k' - q) (by omega), Int.mul_zero])
          have := rR j' k'
          omega
        · rw [if_neg hc2]
    · rw [if_neg hz]
      simp only [x_Md_multiplyTables_50, x_Md_multiplyTables_51, x_Md_multiplyTables_52, x_Md_multiplyTables_54, x_Md_multiplyTables_56, x_Md_multiplyTables_58, x_Md_multiplyTables_59, x_Md_multiplyTables_61, x_Md_multiplyTables_62, rO_101, Option.toList_some, Option.toList_none, List.cons_append, List.nil_append, List.length_cons, List.length_nil, Nat.reduceAdd, Nat.zero_add, Nat.reduceLeDiff, true_and]
      have rI : om_r31 (om_mt I t) := by
        intro j' k'
        rw [hI j' k']
        split
        · omega
        · exact rR j' k'
      refine md_addProduct ht (by omega) hx (by omega) ha hi nxt nat (by decide) rI (by rw [hX]; exact rX) (by rw [hA]; exact rA) (fun I1 f1 f2 => ?_)
      rw [hA, hX] at f2
      simp only [x_Md_multiplyTables_65, x_Md_multiplyTables_68, Option.toList_some, Option.toList_none, List.cons_append, List.nil_append, List.length_cons, List.length_nil, Nat.reduceAdd, Nat.zero_add, Nat.reduceLeDiff, true_and]
      refine ⟨⟨by omega, by omega⟩, ih _ _ (by omega) (by omega) (by rw [f1.2 a nat]; exact hA) (by rw [f1.2 x nxt]; exact hX) (fun j' k' => ?_) (fun I' f3 f4 => hq I' (om_fr_tr f1 f3) f4)⟩
      rw [f2 j' k', om_cv1, Int.one_mul]
      by_cases hc : j' = j ∧ 0 ≤ k' ∧ k' < 64
      · rw [if_pos hc, if_pos (by omega), hI j k', if_neg (by omega), hc.1]
      · rw [if_neg hc, hI j' k']
        by_cases hc2 : 0 ≤ j' ∧ j' < j ∧ 0 ≤ k' ∧ k' < 64
        · rw [if_pos hc2, if_pos (by omega)]
        · rw [if_neg hc2, if_neg (by omega)]
/-- the order, from tables of either size -/
theorem om_or_e {o w o' w' : Int} {A : Int → Int → Int} (h : om_su o w A) (h1 : 0 ≤ o) (h2 : o ≤ o') (h3 : w ≤ w') : om_or o' w' A = om_or o w A := by
  unfold om_or
  have b := om_top_b (fun i => decide (0 ≤ om_dg w A i)) o.toNat
  have hd : ∀ i, om_dg w' A i < 0 ↔ om_dg w A i < 0 := by
    intro i
    rw [om_dg_n, om_dg_n]
    constructor
    · exact fun q k k1 k2 => q k k1 (by omega)
    · intro q k k1 k2
      by_cases hk : k < w
      · exact q k k1 hk
      · exact h i k (by omega)
  refine om_top_eq b.1 (by omega) (fun h0 => ?_) (fun i i1 i2 => ?_)
  · have h4 := om_top_p (p := fun i => decide (0 ≤ om_dg w A i)) (n := o.toNat) h0
    simp only [decide_eq_true_eq] at h4 ⊢
    exact Decidable.byContradiction (fun q => by
      have := (hd (om_top (fun i => decide (0 ≤ om_dg w A i)) o.toNat)).mp (by omega)
      omega)
  · simp only [decide_eq_false_iff_not]
    by_cases hi : i < o.toNat
    · have h4 := om_top_n (p := fun i => decide (0 ≤ om_dg w A i)) (n := o.toNat) i1 hi
      simp only [decide_eq_false_iff_not] at h4
      have := (hd i).mpr (by omega)
      omega
    · have : om_dg w' A i < 0 := om_dg_n.mpr (fun k _ _ => h i k (by omega))
      omega
theorem md_mulT_i {sc : Int × (Int → Int)} {d : Nat} {s : Int} {q : Nat → Int} {Q : Option om_V → om_H → Prop} {a b t x n : Int} (hs : s = 0 ∨ s = 1) (ha : 0 ≤ a ∧ a < 6) (ht : 0 ≤ t ∧ t < 6) (hx : 0 ≤ x ∧ x < 6) (nat : a ≠ t) (nax : a ≠ x) (ntx : t ≠ x) {A B : Int → Int → Int} (hA : om_su 5 13 A) (rA : om_r31 A) (hB : om_su 5 13 B) (rB : om_r31 B) (hn : n = om_or 5 13 A) : ∀ (m i : Nat) (y : om_V) (I : Nat → Int → Int), (i : Int) + m = n + 1 → om_mt I a = A → om_mt I t = om_mup s A B i → om_mt I x = om_Ti s B (if (i : Int) ≤ n then i else i - 1) → (∀ I', om_f2 I I' t x → om_mt I' t = om_mlt s A B → Q none (om_O s q, I')) → om_R sc (d + 4) 116 22 [.inr (.inl 101), .inl a, .inl b, .inl t, .inl x, .inl n, .inl (i : Int), y] [] (om_O s q, I) Q := by
  have hn0 := om_or_n hA
  have hn5 := om_or_b (A := A)
  rw [← hn] at hn0 hn5
  intro m
  induction m with
  | zero =>
    intro i y I h1 hAI hR hT hq
    simp only [x_Md_multiplyTables_22, x_Md_multiplyTables_24, x_Md_multiplyTables_26, x_Md_multiplyTables_90]
    rw [if_pos (by omega)]
    exact hq I om_f2_rf (by rw [hR]; exact om_mup_5 (by omega) (fun i k hi => hn0 i k (by omega)))
  | succ m ih =>
    intro i y I h1 hAI hR hT hq
    rw [if_pos (by omega)] at hT
    have suT := om_Ti_su (s := s) hB (by omega) i
    have suP := om_mup_o (s := s) hA hB i (by omega)
    simp only [x_Md_multiplyTables_22, x_Md_multiplyTables_24, x_Md_multiplyTables_26, x_Md_multiplyTables_29, x_Md_multiplyTables_30]
    rw [if_neg (by omega)]
    refine md_mulT_j ha ht hx nat (fun e => ntx e.symm) (by omega) rA (om_Ti_r rB i) (om_mup_r i) (om_su_le suT (by omega) (by omega)) (om_su_le suP (by omega) (by omega)) (fun I1 => om_fr I I1 t ∧ om_mt I1 t = om_mup s A B (i + 1)) (fun I1 ⟨f1, f2⟩ => ?_) 9 0 I (by omega) (by omega) hAI hT (fun j' k' => by rw [if_neg (by omega), hR]) (fun I1 f1 f2 => ⟨f1, ?_⟩)
    · have hA1 : om_mt I1 a = A := by rw [f1.2 a nat]; exact hAI
      have hT1 : om_mt I1 x = om_Ti s B i := by rw [f1.2 x (fun e => ntx e.symm)]; exact hT
      simp only [x_Md_multiplyTables_71, x_Md_multiplyTables_73, x_Md_multiplyTables_75]
      by_cases hin : n ≤ i
      · rw [if_pos hin]
        simp only [x_Md_multiplyTables_84, x_Md_multiplyTables_87]
        refine ⟨⟨by omega, by omega⟩, ?_⟩
        have h := ih (i + 1) (.inl 9) I1 (by omega) hA1 f2 (by rw [if_neg (by omega)]; exact hT1) (fun I' f3 f4 => hq I' (om_f2_tr (om_f2_l f1) f3) f4)
        simpa using h
      · rw [if_neg hin]
        simp only [x_Md_multiplyTables_78, x_Md_multiplyTables_79, x_Md_multiplyTables_81, rO_101, Option.toList_some, Option.toList_none, List.cons_append, List.nil_append, List.length_cons, List.length_nil, Nat.reduceAdd, Nat.zero_add, Nat.reduceLeDiff, true_and]
        refine md_raise hx (by rw [hT1]; exact om_Ti_r rB i) (by rw [hT1]; exact om_su_le suT (by omega) (by omega)) (fun I2 f3 f4 => ?_)
        rw [hT1] at f4
        simp only [x_Md_multiplyTables_84, x_Md_multiplyTables_87, Option.toList_some, Option.toList_none, List.cons_append, List.nil_append, List.length_cons, List.length_nil, Nat.reduceAdd, Nat.zero_add, Nat.reduceLeDiff, true_and]
        refine ⟨⟨by omega, by omega⟩, ?_⟩
        have h := ih (i + 1) (.inl 9) I2 (by omega) (by rw [f3.2 a nax]; exact hA1) (by rw [f3.2 t ntx]; exact f2) (by rw [if_pos (by omega)]; exact f4) (fun I' f5 f6 => hq I' (om_f2_tr (om_f2_tr (om_f2_l f1) (om_f2_r f3)) f5) f6)
        simpa using h
    · funext j k
      rw [f2 j k]
      show _ = (om_sm _ i + om_cv (A i) (om_Ti s B (i : Int).toNat) j k) % 31
      rw [Int.toNat_natCast]
      split
      · show (om_sm _ i % 31 + _) % 31 = _
        omega
      · rename_i hno
        have e1 := suP j k (by omega)
        unfold om_mup at e1
        rw [om_cv_o (w := 13) (fun q hq => hA i q (by omega)) suT j k (by omega)]
        omega
theorem md_multiplyTables {sc : Int × (Int → Int)} {d : Nat} {s : Int} {q : Nat → Int} {I : Nat → Int → Int} {Q : Option om_V → om_H → Prop} {a b t x : Int} (hs : s = 0 ∨ s = 1) (ha : 0 ≤ a ∧ a < 6) (hb : 0 ≤ b ∧ b < 6) (ht : 0 ≤ t ∧ t < 6) (hx : 0 ≤ x ∧ x < 6) (nat : a ≠ t) (nax : a ≠ x) (ntx : t ≠ x) (nbx : b ≠ x) (hA : om_su 5 13 (om_mt I a)) (rA : om_r31 (om_mt I a)) (hB : om_su 5 13 (om_mt I b)) (rB : om_r31 (om_mt I b)) (hq : ∀ I', om_f2 I I' t x → om_mt I' t = om_mlt s (om_mt I a) (om_mt I b) → Q none (om_O s q, I')) : om_R sc (d + 4) 116 0 [.inr (.inl 101), .inl a, .inl b, .inl t, .inl x, om_un, om_un, om_un] [] (om_O s q, I) Q := by
  simp only [x_Md_multiplyTables_0, x_Md_multiplyTables_1, x_Md_multiplyTables_2, x_Md_multiplyTables_4, rO_101, Option.toList_some, Option.toList_none, List.cons_append, List.nil_append, List.length_cons, List.length_nil, Nat.reduceAdd, Nat.zero_add, Nat.reduceLeDiff, true_and]
  refine md_copy hx hb nbx (fun I1 f1 f2 => ?_)
  simp only [x_Md_multiplyTables_7, x_Md_multiplyTables_8, x_Md_multiplyTables_9, rO_101, Option.toList_some, Option.toList_none, List.cons_append, List.nil_append, List.length_cons, List.length_nil, Nat.reduceAdd, Nat.zero_add, Nat.reduceLeDiff, true_and]
  refine md_wipe ht (fun I2 f3 f4 => ?_)
  simp only [x_Md_multiplyTables_12, x_Md_multiplyTables_13, x_Md_multiplyTables_14, rO_101, Option.toList_some, Option.toList_none, List.cons_append, List.nil_append, List.length_cons, List.length_nil, Nat.reduceAdd, Nat.zero_add, Nat.reduceLeDiff, true_and]
  refine md_orderOf ha ?_
  have eA : om_mt I2 a = om_mt I a := by rw [f3.2 a nat, f1.2 a nax]
  rw [eA, om_or_e hA (by omega) (by omega) (by omega)]
  simp only [x_Md_multiplyTables_17, x_Md_multiplyTables_19, x_Md_multiplyTables_20, Option.toList_some, Option.toList_none, List.cons_append, List.nil_append, List.length_cons, List.length_nil, Nat.reduceAdd, Nat.zero_add, Nat.reduceLeDiff, true_and]
  have hbb := om_or_b (A := om_mt I a)
  have h := md_mulT_i (sc := sc) (d := d) (q := q) (b := b) (Q := Q) hs ha ht hx nat nax ntx hA rA hB rB rfl (om_or 5 13 (om_mt I a) + 1).toNat 0 om_un I2 (by omega) eA (by rw [f4]; rfl) (by
    rw [f3.2 x (fun e => ntx e.symm), f2]
    split <;> rfl) (fun I' f5 f6 => hq I' (om_f2_tr (om_f2_tr (om_f2_r f1) (om_f2_l f3)) f5) f6)
  simpa using h
theorem md_applyT_i {sc : Int × (Int → Int)} {d : Nat} {s : Int} {q : Nat → Int} {Q : Option om_V → om_H → Prop} {a f t : Int} (ha : 0 ≤ a ∧ a < 6) (hf : 0 ≤ f ∧ f < 6) (ht : 0 ≤ t ∧ t < 6) (nat : a ≠ t) (naf : a ≠ f) (nft : f ≠ t) {A F : Int → Int → Int} (hA : om_su 5 13 A) (rA : om_r31 A) (hF : om_su 1 13 F) (rF : om_r31 F) : ∀ (m i : Nat) (I : Nat → Int → Int), i + m = 5 → om_mt I a = A → om_mt I t = om_img s A F i → om_mt I f = om_Di s F i → (∀ I', om_f2 I I' t f → om_mt I' t = om_img s A F 5 → Q none (om_O s q, I')) → om_R sc (d + 4) 133 8 [.inr (.inl 101), .inl a, .inl f, .inl t, .inl (i : Int)] [] (om_O s q, I) Q := by
  intro m
  induction m with
  | zero =>
    intro i I h1 hAI hR hT hq
    simp only [x_Md_applyTables_8, x_Md_applyTables_10, x_Md_applyTables_11, x_Md_applyTables_37]
    rw [if_pos (by omega)]
    have hi : i = 5 := by omega
    subst hi
    exact hq I om_f2_rf hR
  | succ m ih =>
    intro i I h1 hAI hR hT hq
    have suT := om_Di_su (s := s) hF (by omega) i
    have suP := om_img_o (s := s) hA hF i
    simp only [x_Md_applyTables_8, x_Md_applyTables_10, x_Md_applyTables_11]
    rw [if_neg (by omega)]
    simp only [x_Md_applyTables_14, x_Md_applyTables_15, x_Md_applyTables_16, x_Md_applyTables_17, x_Md_applyTables_18, x_Md_applyTables_19, x_Md_applyTables_20, x_Md_applyTables_22, x_Md_applyTables_23, rO_101, Option.toList_some, Option.toList_none, List.cons_append, List.nil_append, List.length_cons, List.length_nil, Nat.reduceAdd, Nat.zero_add, Nat.reduceLeDiff, true_and]
    refine md_addProduct ht (by decide) hf (by decide) ha (by omega) nft nat (by decide) (by rw [hR]; exact om_img_r i) (by rw [hT]; exact om_Di_r rF i) (by rw [hAI]; exact rA) (fun I1 f1 f2 => ?_)
    rw [hAI, hT, hR] at f2
    have e1 : om_mt I1 t = om_img s A F (i + 1) := by
      funext j k
      rw [f2 j k, om_cv1, Int.one_mul]
      show _ = (om_sm _ i + om_cv (A i) (om_Di s F (i : Int).toNat) j k) % 31
      rw [Int.toNat_natCast]
      split
      · rename_i hc
        rw [hc.1]
        show (om_sm _ i % 31 + _) % 31 = _
        omega
      · rename_i hno
        have e1 := suP j k (by omega)
        rw [e1]
        unfold om_img at e1
        rw [om_cv_o (w := 13) (fun q hq => hA i q (by omega)) suT j k (by omega)]
        omega
    simp only [x_Md_applyTables_26, x_Md_applyTables_27, x_Md_applyTables_28, rO_101, Option.toList_some, Option.toList_none, List.cons_append, List.nil_append, List.length_cons, List.length_nil, Nat.reduceAdd, Nat.zero_add, Nat.reduceLeDiff, true_and]
    have hT1 : om_mt I1 f = om_Di s F i := by rw [f1.2 f nft]; exact hT
    refine md_turn hf (by rw [hT1]; exact om_Di_r rF i) (fun I2 f3 f4 => ?_)
    rw [hT1] at f4
    simp only [x_Md_applyTables_31, x_Md_applyTables_34, Option.toList_some, Option.toList_none, List.cons_append, List.nil_append, List.length_cons, List.length_nil, Nat.reduceAdd, Nat.zero_add, Nat.reduceLeDiff, true_and]
    refine ⟨⟨by omega, by omega⟩, ?_⟩
    have h := ih (i + 1) I2 (by omega) (by rw [f3.2 a naf, f1.2 a nat]; exact hAI) (by rw [f3.2 t (fun e => nft e.symm)]; exact e1) f4 (fun I' f5 f6 => hq I' (om_f2_tr (om_f2_tr (om_f2_l f1) (om_f2_r f3)) f5) f6)
    simpa using h
theorem md_applyTables {sc : Int × (Int → Int)} {d : Nat} {s : Int} {q : Nat → Int} {I : Nat → Int → Int} {Q : Option om_V → om_H → Prop} {a f t : Int} (ha : 0 ≤ a ∧ a < 6) (hf : 0 ≤ f ∧ f < 6) (ht : 0 ≤ t ∧ t < 6) (nat : a ≠ t) (naf : a ≠ f) (nft : f ≠ t) (hA : om_su 5 13 (om_mt I a)) (rA : om_r31 (om_mt I a)) (hF : om_su 1 13 (om_mt I f)) (rF : om_r31 (om_mt I f)) (hq : ∀ I', om_f2 I I' t f → om_mt I' t = om_img s (om_mt I a) (om_mt I f) 5 → Q none (om_O s q, I')) : om_R sc (d + 4) 133 0 [.inr (.inl 101), .inl a, .inl f, .inl t, om_un] [] (om_O s q, I) Q := by
  simp only [x_Md_applyTables_0, x_Md_applyTables_1, x_Md_applyTables_2, rO_101, Option.toList_some, Option.toList_none, List.cons_append, List.nil_append, List.length_cons, List.length_nil, Nat.reduceAdd, Nat.zero_add, Nat.reduceLeDiff, true_and]
  refine md_wipe ht (fun I1 f1 f2 => ?_)
  simp only [x_Md_applyTables_5, x_Md_applyTables_6, Option.toList_some, Option.toList_none, List.cons_append, List.nil_append, List.length_cons, List.length_nil, Nat.reduceAdd, Nat.zero_add, Nat.reduceLeDiff, true_and]
  have h := md_applyT_i (sc := sc) (d := d) (s := s) (q := q) (Q := Q) ha hf ht nat naf nft hA rA hF rF 5 0 I1 (by omega) (by rw [f1.2 a nat]) (by rw [f2]; rfl) (by rw [f1.2 f nft]; rfl) (fun I' f3 f4 => hq I' (om_f2_tr (om_f2_l f1) f3) f4)
  simpa using h
