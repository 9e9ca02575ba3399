/-! the reference's tables: rows times rows, shifts, T before a table -/
theorem md_addp_b {sc : Int × (Int → Int)} {d : Nat} {s : Int} {q : Nat → Int} {Q : Option om_V → om_H → Prop} {t j u i qq r tm a f : Int} (ht : 0 ≤ t ∧ t < 6) (hj : 0 ≤ j ∧ j < 9) (hu : 0 ≤ u ∧ u < 6) (hi : 0 ≤ i ∧ i < 9) (hne : u ≠ t) (ha : 0 ≤ a ∧ a < 64) (hf : -3100 ≤ f ∧ f ≤ 3100) {A S : Int → Int → Int} (hA : om_r31 A) (hS : om_r31 S) (hSu : om_su 9 64 S) (hAu : om_su 9 64 A) (K : (Nat → Int → Int) → Prop) (hK : ∀ I' (x : om_V), K I' → om_R sc (d + 2) 120 72 [.inr (.inl 101), .inl t, .inl j, .inl u, .inl i, .inl qq, .inl r, .inl tm, .inl a, .inl f, x] [] (om_O s q, I') Q) : ∀ (m : Nat) (b : Int) (I : Nat → Int → Int), a + b + m = 64 → 0 ≤ b → om_mt I u = S → (∀ i' k', om_mt I t i' k' = if i' = j ∧ a ≤ k' ∧ k' < a + b then (A j k' + f * S i (k' - a)) % 31 else A i' k') → (∀ I', om_fr I I' t → (∀ i' k', om_mt I' t i' k' = if i' = j ∧ 0 ≤ k' ∧ k' < 64 then (A j k' + f * S i (k' - a)) % 31 else A i' k') → K I') → om_R sc (d + 2) 120 28 [.inr (.inl 101), .inl t, .inl j, .inl u, .inl i, .inl qq, .inl r, .inl tm, .inl a, .inl f, .inl b] [] (om_O s q, I) Q := by
  have clos : ∀ i' k', (if i' = j ∧ a ≤ k' ∧ k' < 64 then (A j k' + f * S i (k' - a)) % 31 else A i' k') = if i' = j ∧ 0 ≤ k' ∧ k' < 64 then (A j k' + f * S i (k' - a)) % 31 else A i' k' := by
    intro i' k'
    by_cases hc : i' = j ∧ 0 ≤ k' ∧ k' < 64
    · rw [if_pos hc]
      by_cases hk : a ≤ k'
      · rw [if_pos (by omega)]
      · rw [if_neg (by omega), hSu i (k' - a) (by omega), Int.mul_zero, hc.1]
        have := hA j k'
        omega
    · rw [if_neg hc, if_neg (by omega)]
  intro m
  induction m with
  | zero =>
    intro b I h1 h2 hSI hI hq
    have st := hK I (.inl b) (hq I om_fr_rf (fun i' k' => by rw [hI i' k', ← clos i' k', show a + b = 64 by omega]))
    simp only [x_Md_addProduct_28, x_Md_addProduct_30, x_Md_addProduct_33, x_Md_addProduct_35, x_Md_addProduct_37, x_Md_addProduct_38, x_Md_addProduct_40]
    by_cases hf0 : f = 0
    · rw [if_pos hf0]
      exact st
    · rw [if_neg hf0, if_pos (by omega)]
      exact ⟨⟨by omega, by omega⟩, st⟩
  | succ m ih =>
    intro b I h1 h2 hSI hI hq
    simp only [x_Md_addProduct_28, x_Md_addProduct_30, x_Md_addProduct_33, x_Md_addProduct_35, x_Md_addProduct_37, x_Md_addProduct_38, x_Md_addProduct_40]
    by_cases hf0 : f = 0
    · rw [if_pos hf0]
      refine hK I (.inl b) (hq I om_fr_rf (fun i' k' => ?_))
      have e0 : f * S i (k' - a) = 0 := by rw [hf0, Int.zero_mul]
      rw [hI i' k', e0]
      have := hA j k'
      by_cases hc : i' = j ∧ 0 ≤ k' ∧ k' < 64
      · rw [if_pos hc, hc.1]
        split <;> omega
      · rw [if_neg hc, if_neg (by omega)]
    · rw [if_neg hf0, if_neg (by omega)]
      simp only [x_Md_addProduct_43, x_Md_addProduct_44, x_Md_addProduct_45, x_Md_addProduct_46, x_Md_addProduct_48, x_Md_addProduct_50, x_Md_addProduct_51, x_Md_addProduct_53, x_Md_addProduct_54, x_Md_addProduct_55, x_Md_addProduct_57, x_Md_addProduct_59, rO_101, Option.toList_some, Option.toList_none, List.cons_append, List.nil_append, List.length_cons, List.length_nil, Nat.reduceAdd, Nat.zero_add, Nat.reduceLeDiff, true_and]
      refine ⟨⟨by omega, by omega⟩, ⟨by omega, by omega⟩, md_get hu hi (by omega) ?_⟩
      rw [hSI]
      obtain ⟨a3, a4⟩ := hS i b
      obtain ⟨a5, a6⟩ := om_mb (t := f) (T := 3100) (by omega) (by omega) a3 a4
      simp only [x_Md_addProduct_62, x_Md_addProduct_63, rO_101, Option.toList_some, Option.toList_none, List.cons_append, List.nil_append, List.length_cons, List.length_nil, Nat.reduceAdd, Nat.zero_add, Nat.reduceLeDiff, true_and]
      have e1 : om_mt I t j (a + b) = A j (a + b) := by rw [hI j (a + b), if_neg (by omega)]
      refine ⟨⟨by omega, by omega⟩, md_plus ht hj (by omega) (by omega) (by rw [e1]; exact hA j (a + b)) (fun I1 f1 f2 => ?_)⟩
      simp only [x_Md_addProduct_66, x_Md_addProduct_69, Option.toList_some, Option.toList_none, List.cons_append, List.nil_append, List.length_cons, List.length_nil, Nat.reduceAdd, Nat.zero_add, Nat.reduceLeDiff, true_and]
      refine ⟨⟨by omega, by omega⟩, ih _ _ (by omega) (by omega) (by rw [f1.2 u hne]; exact hSI) (fun i' k' => ?_) (fun I' f3 f4 => hq I' (om_fr_tr f1 f3) f4)⟩
      rw [f2 i' k', e1]
      by_cases hc : i' = j ∧ k' = a + b
      · rw [if_pos hc, if_pos (by omega), hc.2, show a + b - a = b by omega]
      · rw [if_neg hc, hI i' k']
        by_cases hc2 : i' = j ∧ a ≤ k' ∧ k' < a + b
        · rw [if_pos hc2, if_pos (by omega)]
        · rw [if_neg hc2, if_neg (by omega)]
theorem md_addp_a {sc : Int × (Int → Int)} {d : Nat} {s : Int} {q : Nat → Int} {Q : Option om_V → om_H → Prop} {t j u i qq r tm : Int} (ht : 0 ≤ t ∧ t < 6) (hj : 0 ≤ j ∧ j < 9) (hu : 0 ≤ u ∧ u < 6) (hi : 0 ≤ i ∧ i < 9) (hqq : 0 ≤ qq ∧ qq < 6) (hr : 0 ≤ r ∧ r < 9) (hne : u ≠ t) (hneq : qq ≠ t) (htm : -100 ≤ tm ∧ tm ≤ 100) {A S P : Int → Int → Int} (hA : om_r31 A) (hAu : om_su 9 64 A) (hS : om_r31 S) (hSu : om_su 9 64 S) (hP : om_r31 P) : ∀ (m n : Nat) (x y : om_V) (I : Nat → Int → Int), n + m = 64 → om_mt I u = S → om_mt I qq = P → (∀ i' k', om_mt I t i' k' = if i' = j ∧ 0 ≤ k' ∧ k' < 64 then (A j k' + om_sm (fun a => (P r a * tm) * S i (k' - a)) n) % 31 else A i' k') → (∀ I', om_fr I I' t → (∀ i' k', om_mt I' t i' k' = if i' = j ∧ 0 ≤ k' ∧ k' < 64 then (A j k' + om_sm (fun a => (P r a * tm) * S i (k' - a)) 64) % 31 else A i' k') → Q none (om_O s q, I')) → om_R sc (d + 2) 120 3 [.inr (.inl 101), .inl t, .inl j, .inl u, .inl i, .inl qq, .inl r, .inl tm, .inl (n : Int), x, y] [] (om_O s q, I) Q := by
  intro m
  induction m with
  | zero =>
    intro n x y I h1 hSI hPI hI hq
    simp only [x_Md_addProduct_3, x_Md_addProduct_5, x_Md_addProduct_7, x_Md_addProduct_78]
    rw [if_pos (by omega)]
    have hn : n = 64 := by omega
    subst hn
    exact hq I om_fr_rf hI
  | succ m ih =>
    intro n x y I h1 hSI hPI hI hq
    simp only [x_Md_addProduct_3, x_Md_addProduct_5, x_Md_addProduct_7]
    rw [if_neg (by omega)]
    simp only [x_Md_addProduct_10, x_Md_addProduct_11, x_Md_addProduct_13, x_Md_addProduct_15, x_Md_addProduct_17, rO_101, Option.toList_some, Option.toList_none, List.cons_append, List.nil_append, List.length_cons, List.length_nil, Nat.reduceAdd, Nat.zero_add, Nat.reduceLeDiff, true_and]
    refine md_get hqq hr (by omega) ?_
    rw [hPI]
    obtain ⟨a3, a4⟩ := hP r n
    obtain ⟨a5, a6⟩ := om_mb (t := tm) (T := 100) (by omega) (by omega) a3 a4
    have ecm : P r n * tm = tm * P r n := Int.mul_comm _ _
    simp only [x_Md_addProduct_20, x_Md_addProduct_22, x_Md_addProduct_23, x_Md_addProduct_25, x_Md_addProduct_26, Option.toList_some, Option.toList_none, List.cons_append, List.nil_append, List.length_cons, List.length_nil, Nat.reduceAdd, Nat.zero_add, Nat.reduceLeDiff, true_and]
    refine ⟨⟨by omega, by omega⟩, ?_⟩
    have rI : om_r31 (om_mt I t) := by
      intro i' k'
      rw [hI i' k']
      split
      · omega
      · exact hA i' k'
    refine md_addp_b ht hj hu hi hne (a := n) (by omega) (f := P r n * tm) (by omega) rI hS hSu om_mt_su (fun I1 => om_fr I I1 t ∧ ∀ i' k', om_mt I1 t i' k' = if i' = j ∧ 0 ≤ k' ∧ k' < 64 then (om_mt I t j k' + (P r n * tm) * S i (k' - n)) % 31 else om_mt I t i' k') (fun I1 z ⟨f1, f2⟩ => ?_) (64 - n) 0 I (by omega) (by omega) hSI (fun i' k' => by rw [if_neg (by omega)]) (fun I1 f1 f2 => ⟨f1, f2⟩)
    simp only [x_Md_addProduct_72, x_Md_addProduct_75]
    refine ⟨⟨by omega, by omega⟩, ?_⟩
    have h := ih (n + 1) (.inl (P r n * tm)) z I1 (by omega) (by rw [f1.2 u hne]; exact hSI) (by rw [f1.2 qq hneq]; exact hPI) (fun i' k' => ?_) (fun I' f3 f4 => hq I' (om_fr_tr f1 f3) f4)
    · simpa using h
    · rw [f2 i' k']
      by_cases hc : i' = j ∧ 0 ≤ k' ∧ k' < 64
      · rw [if_pos hc, if_pos hc, hI j k', if_pos (by omega)]
        show _ = (A j k' + (om_sm (fun a => (P r a * tm) * S i (k' - a)) n + (P r n * tm) * S i (k' - n))) % 31
        omega
      · rw [if_neg hc, if_neg hc, hI i' k', if_neg hc]
theorem md_addProduct {sc : Int × (Int → Int)} {d : Nat} {s : Int} {q : Nat → Int} {I : Nat → Int → Int} {Q : Option om_V → om_H → Prop} {t j u i qq r tm : Int} (ht : 0 ≤ t ∧ t < 6) (hj : 0 ≤ j ∧ j < 9) (hu : 0 ≤ u ∧ u < 6) (hi : 0 ≤ i ∧ i < 9) (hqq : 0 ≤ qq ∧ qq < 6) (hr : 0 ≤ r ∧ r < 9) (hne : u ≠ t) (hneq : qq ≠ t) (htm : -100 ≤ tm ∧ tm ≤ 100) (rT : om_r31 (om_mt I t)) (rS : om_r31 (om_mt I u)) (rP : om_r31 (om_mt I qq)) (hq : ∀ I', om_fr I I' t → (∀ i' k', om_mt I' t i' k' = if i' = j ∧ 0 ≤ k' ∧ k' < 64 then (om_mt I t j k' + om_sm (fun a => (om_mt I qq r a * tm) * om_mt I u i (k' - a)) 64) % 31 else om_mt I t i' k') → Q none (om_O s q, I')) : om_R sc (d + 2) 120 0 [.inr (.inl 101), .inl t, .inl j, .inl u, .inl i, .inl qq, .inl r, .inl tm, om_un, om_un, om_un] [] (om_O s q, I) Q := by
  simp only [x_Md_addProduct_0, x_Md_addProduct_1]
  refine md_addp_a ht hj hu hi hqq hr hne hneq htm rT om_mt_su rS om_mt_su rP 64 0 _ _ I (by omega) rfl rfl (fun i' k' => ?_) hq
  split
  · rename_i hc
    have := rT j k'
    show om_mt I t i' k' = (om_mt I t j k' + 0) % 31
    rw [hc.1]
    omega
  · rfl
theorem md_shift_k {sc : Int × (Int → Int)} {d : Nat} {s : Int} {q : Nat → Int} {Q : Option om_V → om_H → Prop} {t i n fr : Int} (ht : 0 ≤ t ∧ t < 6) (hi : 0 ≤ i ∧ i < 9) (hn : n < 64) (hfr : 0 ≤ fr ∧ fr < n) {A : Int → Int → Int} (hA : om_r31 A) (K : (Nat → Int → Int) → Prop) (hK : ∀ I', K I' → om_R sc (d + 2) 123 52 [.inr (.inl 101), .inl t, .inl i, .inl n, .inl fr, .inl (fr - 1)] [] (om_O s q, I') Q) : ∀ (m : Nat) (k : Int) (I : Nat → Int → Int), k + 1 = fr + m → k + 1 ≤ n → (∀ i' k', om_mt I t i' k' = if i' = i ∧ k < k' ∧ k' < n + 1 then om_sx (A i) (n + 1 - k').toNat k' else A i' k') → (∀ I', om_fr I I' t → (∀ i' k', om_mt I' t i' k' = if i' = i ∧ fr ≤ k' ∧ k' < n + 1 then om_sx (A i) (n + 1 - k').toNat k' else A i' k') → K I') → om_R sc (d + 2) 123 21 [.inr (.inl 101), .inl t, .inl i, .inl n, .inl fr, .inl k] [] (om_O s q, I) Q := by
  intro m
  induction m with
  | zero =>
    intro k I h1 h2 hI hq
    simp only [x_Md_shift_21, x_Md_shift_23, x_Md_shift_25]
    rw [if_pos (by omega)]
    have hk : k = fr - 1 := by omega
    subst hk
    refine hK I (hq I om_fr_rf (fun i' k' => ?_))
    rw [hI i' k']
    by_cases hc : i' = i ∧ fr ≤ k' ∧ k' < n + 1
    · rw [if_pos hc, if_pos (by omega)]
    · rw [if_neg hc, if_neg (by omega)]
  | succ m ih =>
    intro k I h1 h2 hI hq
    simp only [x_Md_shift_21, x_Md_shift_23, x_Md_shift_25]
    rw [if_neg (by omega)]
    simp only [x_Md_shift_28, x_Md_shift_29, x_Md_shift_30, x_Md_shift_31, x_Md_shift_33, x_Md_shift_34, x_Md_shift_35, x_Md_shift_36, x_Md_shift_38, x_Md_shift_39, x_Md_shift_40, rO_101, Option.toList_some, Option.toList_none, List.cons_append, List.nil_append, List.length_cons, List.length_nil, Nat.reduceAdd, Nat.zero_add, Nat.reduceLeDiff, true_and]
    refine ⟨⟨by omega, by omega⟩, md_get ht hi (by omega) ?_⟩
    have e2 : om_mt I t i (k + 1) = om_sx (A i) (n + 1 - (k + 1)).toNat (k + 1) := by rw [hI i (k + 1), if_pos (by omega)]
    have e1 : om_mt I t i k = A i k := by rw [hI i k, if_neg (by omega)]
    rw [e2]
    obtain ⟨a3, a4⟩ := om_sx_b (A i) (n + 1 - (k + 1)).toNat (k + 1)
    simp only [x_Md_shift_43, rO_101, Option.toList_some, Option.toList_none, List.cons_append, List.nil_append, List.length_cons, List.length_nil, Nat.reduceAdd, Nat.zero_add, Nat.reduceLeDiff, true_and]
    refine md_plus ht hi (by omega) (by omega) (by rw [e1]; exact hA i k) (fun I1 f1 f2 => ?_)
    simp only [x_Md_shift_46, x_Md_shift_49, Option.toList_some, Option.toList_none, List.cons_append, List.nil_append, List.length_cons, List.length_nil, Nat.reduceAdd, Nat.zero_add, Nat.reduceLeDiff, true_and]
    refine ⟨⟨by omega, by omega⟩, ih _ _ (by omega) (by omega) (fun i' k' => ?_) (fun I' f3 f4 => hq I' (om_fr_tr f1 f3) f4)⟩
    rw [f2 i' k', e1]
    by_cases hc : i' = i ∧ k' = k
    · rw [if_pos hc, if_pos (by omega), hc.2]
      rw [show (n + 1 - k).toNat = (n + 1 - (k + 1)).toNat + 1 by omega]
      rfl
    · rw [if_neg hc, hI i' k']
      by_cases hc2 : i' = i ∧ k < k' ∧ k' < n + 1
      · rw [if_pos hc2, if_pos (by omega)]
      · rw [if_neg hc2, if_neg (by omega)]
theorem md_shift_l {sc : Int × (Int → Int)} {d : Nat} {s : Int} {q : Nat → Int} {Q : Option om_V → om_H → Prop} {t i n : Int} (ht : 0 ≤ t ∧ t < 6) (hi : 0 ≤ i ∧ i < 9) (hn : -1 ≤ n ∧ n < 64) {A : Int → Int → Int} (hA : om_r31 A) : ∀ (m p : Nat) (x : om_V) (I : Nat → Int → Int), ((p : Int) + m = n ∨ n < 0 ∧ m = 0 ∧ p = 0) → (∀ i' k', om_mt I t i' k' = if i' = i then om_ps (n + 1) (A i) p k' else A i' k') → (∀ I', om_fr I I' t → (∀ i' k', om_mt I' t i' k' = if i' = i then om_ps (n + 1) (A i) n.toNat k' else A i' k') → Q none (om_O s q, I')) → om_R sc (d + 2) 123 10 [.inr (.inl 101), .inl t, .inl i, .inl n, .inl (p : Int), x] [] (om_O s q, I) Q := by
  intro m
  induction m with
  | zero =>
    intro p x I h1 hI hq
    simp only [x_Md_shift_10, x_Md_shift_12, x_Md_shift_13, x_Md_shift_58]
    rw [if_pos (by omega)]
    refine hq I om_fr_rf ?_
    rw [show n.toNat = p by omega]
    exact hI
  | succ m ih =>
    intro p x I h1 hI hq
    simp only [x_Md_shift_10, x_Md_shift_12, x_Md_shift_13, x_Md_shift_16, x_Md_shift_17, x_Md_shift_18, x_Md_shift_19]
    rw [if_neg (by omega)]
    refine ⟨⟨by omega, by omega⟩, ?_⟩
    refine md_shift_k ht hi hn.2 (fr := p) (by omega) (A := fun i' k' => if i' = i then om_ps (n + 1) (A i) p k' else A i' k') ?_ (fun I1 => om_fr I I1 t ∧ ∀ i' k', om_mt I1 t i' k' = if i' = i then om_ps (n + 1) (A i) (p + 1) k' else A i' k') (fun I1 ⟨f1, f2⟩ => ?_) (n - p).toNat (n - 1) I (by omega) (by omega) (fun i' k' => ?_) (fun I1 f1 f2 => ⟨f1, fun i' k' => ?_⟩)
    · intro i' k'
      dsimp only
      split
      · exact om_ps_b (hA i) p k'
      · exact hA i' k'
    · simp only [x_Md_shift_52, x_Md_shift_55]
      refine ⟨⟨by omega, by omega⟩, ?_⟩
      have h := ih (p + 1) (.inl ((p : Int) - 1)) I1 (by omega) f2 (fun I' f3 f4 => hq I' (om_fr_tr f1 f3) f4)
      simpa using h
    · rw [hI i' k']
      by_cases hc : i' = i ∧ n - 1 < k' ∧ k' < n + 1
      · rw [if_pos hc, if_pos hc.1]
        have hk : k' = n := by omega
        subst hk
        rw [show (k' + 1 - k').toNat = 1 by omega]
        simp only [om_sx, if_true]
        have := om_ps_b (w := k' + 1) (hA i) p k'
        omega
      · rw [if_neg hc]
    · rw [f2 i' k']
      by_cases hc : i' = i ∧ (p : Int) ≤ k' ∧ k' < n + 1
      · rw [if_pos hc, if_pos hc.1]
        simp only [if_true]
        rw [show om_ps (n + 1) (A i) (p + 1) = om_pa (n + 1) (om_ps (n + 1) (A i) p) p from rfl]
        unfold om_pa
        rw [if_pos hc.2]
      · rw [if_neg hc]
        by_cases hi2 : i' = i
        · rw [if_pos hi2, if_pos hi2]
          rw [show om_ps (n + 1) (A i) (p + 1) = om_pa (n + 1) (om_ps (n + 1) (A i) p) p from rfl]
          unfold om_pa
          rw [if_neg (by omega)]
        · rw [if_neg hi2, if_neg hi2]
theorem md_shift {sc : Int × (Int → Int)} {d : Nat} {s : Int} {q : Nat → Int} {I : Nat → Int → Int} {Q : Option om_V → om_H → Prop} {t i : Int} (ht : 0 ≤ t ∧ t < 6) (hi : 0 ≤ i ∧ i < 9) (rT : om_r31 (om_mt I t)) (hq : ∀ I', om_fr I I' t → (∀ i' k', om_mt I' t i' k' = if i' = i then om_sh (om_mt I t i) k' else om_mt I t i' k') → Q none (om_O s q, I')) : om_R sc (d + 2) 123 0 [.inr (.inl 101), .inl t, .inl i, om_un, om_un, om_un] [] (om_O s q, I) Q := by
  simp only [x_Md_shift_0, x_Md_shift_1, x_Md_shift_2, x_Md_shift_3, rO_101, Option.toList_some, Option.toList_none, List.cons_append, List.nil_append, List.length_cons, List.length_nil, Nat.reduceAdd, Nat.zero_add, Nat.reduceLeDiff, true_and]
  refine md_degree ht hi ?_
  have b := om_top_b (fun k => decide (om_mt I t i k ≠ 0)) (64 : Int).toNat
  have hz : ∀ k, ¬ (0 ≤ k ∧ k < om_dg 64 (om_mt I t) i + 1) → om_mt I t i k = 0 := by
    intro k hk
    by_cases hk2 : 0 ≤ k ∧ k < 64
    · have := om_top_n (p := fun k => decide (om_mt I t i k ≠ 0)) (n := (64 : Int).toNat) (k := k) (by unfold om_dg at hk; omega) (by omega)
      simpa using this
    · exact om_mt_su i k (by omega)
  have bd : -1 ≤ om_dg 64 (om_mt I t) i ∧ om_dg 64 (om_mt I t) i < 64 := by unfold om_dg; omega
  generalize om_dg 64 (om_mt I t) i = n at hz bd
  simp only [x_Md_shift_6, x_Md_shift_7, x_Md_shift_8, Option.toList_some, Option.toList_none, List.cons_append, List.nil_append, List.length_cons, List.length_nil, Nat.reduceAdd, Nat.zero_add, Nat.reduceLeDiff, true_and]
  have h := md_shift_l (sc := sc) (d := d) (s := s) (q := q) ht hi bd rT n.toNat 0 om_un I (by omega) (fun i' k' => by
    split
    · rename_i hc; rw [hc]; rfl
    · rfl) (fun I' f1 f2 => hq I' f1 (fun i' k' => ?_))
  · simpa using h
  · rw [f2 i' k']
    split
    · by_cases hn : n < 0
      · rw [← om_sh_w hz (by omega), show n.toNat = 0 by omega, show (n + 1).toNat = 0 by omega]
      · have e1 : om_ps (n + 1) (om_mt I t i) (n + 1).toNat = om_ps (n + 1) (om_mt I t i) n.toNat := by
          rw [show (n + 1).toNat = n.toNat + 1 by omega]
          funext k
          show om_pa (n + 1) (om_ps (n + 1) (om_mt I t i) n.toNat) (n.toNat : Int) k = _
          unfold om_pa
          split
          · rename_i hk
            rw [show k = n by omega, show (n + 1 - n).toNat = 1 by omega]
            have := om_ps_b (w := n + 1) (rT i) n.toNat n
            simp only [om_sx]
            omega
          · rfl
        rw [← om_sh_w hz (by omega), e1]
    · rfl
