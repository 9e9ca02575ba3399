/-! the reference's tables: degree, order, fits, store -/
theorem md_degree_l {sc : Int × (Int → Int)} {d : Nat} {s : Int} {q : Nat → Int} {I : Nat → Int → Int} {Q : Option om_V → om_H → Prop} {t i : Int} (ht : 0 ≤ t ∧ t < 6) (hi : 0 ≤ i ∧ i < 9) (hq : Q (some (.inl (om_dg 64 (om_mt I t) i))) (om_O s q, I)) : ∀ (m k : Nat), k + m = 64 → om_R sc (d + 1) 118 5 [.inr (.inl 101), .inl t, .inl i, .inl (om_top (fun k => decide (om_mt I t i k ≠ 0)) k), .inl (k : Int)] [] (om_O s q, I) Q := by
  intro m
  induction m with
  | zero =>
    intro k h1
    simp only [x_Md_degree_5, x_Md_degree_7, x_Md_degree_9, x_Md_degree_36, x_Md_degree_37]
    rw [if_pos (by omega)]
    have hk : k = 64 := by omega
    subst hk
    exact hq
  | succ m ih =>
    intro k h1
    simp only [x_Md_degree_5, x_Md_degree_7, x_Md_degree_9]
    rw [if_neg (by omega)]
    simp only [x_Md_degree_12, x_Md_degree_13, x_Md_degree_14, x_Md_degree_15, x_Md_degree_17, rO_101, Option.toList_some, Option.toList_none, List.cons_append, List.nil_append, List.length_cons, List.length_nil, Nat.reduceAdd, Nat.zero_add, Nat.reduceLeDiff, true_and]
    refine md_get ht hi (by omega) ?_
    simp only [x_Md_degree_20, Option.toList_some, Option.toList_none, List.cons_append, List.nil_append, List.length_cons, List.length_nil, Nat.reduceAdd, Nat.zero_add, Nat.reduceLeDiff, true_and]
    have h := ih (k + 1) (by omega)
    unfold om_top at h
    by_cases hz : om_mt I t i k = 0
    · rw [if_pos hz]
      rw [if_neg (by simp [hz])] at h
      simp only [x_Md_degree_28, x_Md_degree_29, x_Md_degree_30, x_Md_degree_33]
      refine ⟨⟨by omega, by omega⟩, ?_⟩
      simpa using h
    · rw [if_neg hz]
      rw [if_pos (by simp [hz])] at h
      simp only [x_Md_degree_23, x_Md_degree_25, x_Md_degree_28, x_Md_degree_29, x_Md_degree_30, x_Md_degree_33]
      refine ⟨⟨by omega, by omega⟩, ?_⟩
      simpa using h
theorem md_degree {sc : Int × (Int → Int)} {d : Nat} {s : Int} {q : Nat → Int} {I : Nat → Int → Int} {Q : Option om_V → om_H → Prop} {t i : Int} (ht : 0 ≤ t ∧ t < 6) (hi : 0 ≤ i ∧ i < 9) (hq : Q (some (.inl (om_dg 64 (om_mt I t) i))) (om_O s q, I)) : om_R sc (d + 1) 118 0 [.inr (.inl 101), .inl t, .inl i, om_un, om_un] [] (om_O s q, I) Q := by
  simp only [x_Md_degree_0, x_Md_degree_1, x_Md_degree_2, x_Md_degree_3]
  exact md_degree_l ht hi hq 64 0 rfl
theorem md_orderOf_l {sc : Int × (Int → Int)} {d : Nat} {s : Int} {q : Nat → Int} {I : Nat → Int → Int} {Q : Option om_V → om_H → Prop} {t : Int} (ht : 0 ≤ t ∧ t < 6) (hq : Q (some (.inl (om_or 9 64 (om_mt I t)))) (om_O s q, I)) : ∀ (m k : Nat), k + m = 9 → om_R sc (d + 2) 117 4 [.inr (.inl 101), .inl t, .inl (om_top (fun i => decide (0 ≤ om_dg 64 (om_mt I t) i)) k), .inl (k : Int)] [] (om_O s q, I) Q := by
  intro m
  induction m with
  | zero =>
    intro k h1
    simp only [x_Md_orderOf_4, x_Md_orderOf_5, x_Md_orderOf_7, x_Md_orderOf_31, x_Md_orderOf_32]
    rw [if_pos (by omega)]
    have hk : k = 9 := by omega
    subst hk
    exact hq
  | succ m ih =>
    intro k h1
    simp only [x_Md_orderOf_4, x_Md_orderOf_5, x_Md_orderOf_7]
    rw [if_neg (by omega)]
    simp only [x_Md_orderOf_10, x_Md_orderOf_11, x_Md_orderOf_12, x_Md_orderOf_13, rO_101, Option.toList_some, Option.toList_none, List.cons_append, List.nil_append, List.length_cons, List.length_nil, Nat.reduceAdd, Nat.zero_add, Nat.reduceLeDiff, true_and]
    refine md_degree ht (by omega) ?_
    simp only [x_Md_orderOf_16, Option.toList_some, Option.toList_none, List.cons_append, List.nil_append, List.length_cons, List.length_nil, Nat.reduceAdd, Nat.zero_add, Nat.reduceLeDiff, true_and]
    have h := ih (k + 1) (by omega)
    unfold om_top at h
    by_cases hz : om_dg 64 (om_mt I t) k < 0
    · rw [if_pos hz]
      rw [if_neg (by simpa using hz)] at h
      simp only [x_Md_orderOf_23, x_Md_orderOf_24, x_Md_orderOf_25, x_Md_orderOf_28]
      refine ⟨⟨by omega, by omega⟩, ?_⟩
      simpa using h
    · rw [if_neg hz]
      rw [if_pos (by simpa using hz)] at h
      simp only [x_Md_orderOf_19, x_Md_orderOf_20, x_Md_orderOf_23, x_Md_orderOf_24, x_Md_orderOf_25, x_Md_orderOf_28]
      refine ⟨⟨by omega, by omega⟩, ?_⟩
      simpa using h
theorem md_orderOf {sc : Int × (Int → Int)} {d : Nat} {s : Int} {q : Nat → Int} {I : Nat → Int → Int} {Q : Option om_V → om_H → Prop} {t : Int} (ht : 0 ≤ t ∧ t < 6) (hq : Q (some (.inl (om_or 9 64 (om_mt I t)))) (om_O s q, I)) : om_R sc (d + 2) 117 0 [.inr (.inl 101), .inl t, om_un, om_un] [] (om_O s q, I) Q := by
  simp only [x_Md_orderOf_0, x_Md_orderOf_1, x_Md_orderOf_2, x_Md_orderOf_3]
  exact md_orderOf_l ht hq 9 0 rfl
theorem md_fits_k {sc : Int × (Int → Int)} {d : Nat} {s : Int} {q : Nat → Int} {I : Nat → Int → Int} {Q : Option om_V → om_H → Prop} {t i fl : Int} (ht : 0 ≤ t ∧ t < 6) (hi : 0 ≤ i ∧ i < 9) (hfl : fl = 0 ∨ fl = 1) (K : Int → Prop) (hK : ∀ f, (f = 0 ∨ f = 1) → K f → om_R sc (d + 1) 124 59 [.inr (.inl 101), .inl t, .inl f, .inl i, .inl 64] [] (om_O s q, I) Q) (hk : ∀ f, (f = 0 ∨ f = 1) → (f = 1 ↔ fl = 1 ∧ ∀ k, 0 ≤ k → k < 64 → om_mt I t i k ≠ 0 → i < 5 ∧ k < 13) → K f) : ∀ (m : Nat) (k f : Int), k + m = 64 → 0 ≤ k → (f = 0 ∨ f = 1) → (f = 1 ↔ fl = 1 ∧ ∀ k', 0 ≤ k' → k' < k → om_mt I t i k' ≠ 0 → i < 5 ∧ k' < 13) → om_R sc (d + 1) 124 13 [.inr (.inl 101), .inl t, .inl f, .inl i, .inl k] [] (om_O s q, I) Q := by
  intro m
  induction m with
  | zero =>
    intro k f h1 h2 h3 h4
    simp only [x_Md_fits_13, x_Md_fits_15, x_Md_fits_17]
    rw [if_pos (by omega)]
    have hk' : k = 64 := by omega
    subst hk'
    exact hK f h3 (hk f h3 h4)
  | succ m ih =>
    intro k f h1 h2 h3 h4
    have go0 : ∀ f' : Int, (f' = 0 ∨ f' = 1) → (f' = 1 ↔ fl = 1 ∧ ∀ k', 0 ≤ k' → k' < k + 1 → om_mt I t i k' ≠ 0 → i < 5 ∧ k' < 13) → om_R sc (d + 1) 124 52 [.inr (.inl 101), .inl t, .inl f, .inl i, .inl k] [.inl f'] (om_O s q, I) Q := by
      intro f' g1 g2
      simp only [x_Md_fits_52, x_Md_fits_53, x_Md_fits_56]
      exact ⟨⟨by omega, by omega⟩, ih _ _ (by omega) (by omega) g1 g2⟩
    have ext : ∀ P : Prop, (om_mt I t i k ≠ 0 → i < 5 ∧ k < 13 ↔ P) → ((fl = 1 ∧ ∀ k', 0 ≤ k' → k' < k + 1 → om_mt I t i k' ≠ 0 → i < 5 ∧ k' < 13) ↔ f = 1 ∧ P) := by
      intro P hP
      rw [h4, ← hP]
      constructor
      · rintro ⟨a1, a2⟩
        exact ⟨⟨a1, fun k' b1 b2 => a2 k' b1 (by omega)⟩, a2 k (by omega) (by omega)⟩
      · rintro ⟨⟨a1, a2⟩, a3⟩
        refine ⟨a1, fun k' b1 b2 b3 => ?_⟩
        by_cases hkk : k' = k
        · subst hkk
          exact a3 b3
        · exact a2 k' b1 (by omega) b3
    simp only [x_Md_fits_13, x_Md_fits_15, x_Md_fits_17, x_Md_fits_20, x_Md_fits_21]
    rw [if_neg (by omega)]
    by_cases hf : f = 0
    · rw [if_pos hf]
      simp only [x_Md_fits_51]
      exact go0 0 (Or.inl rfl) (by rw [ext _ Iff.rfl]; omega)
    · rw [if_neg hf]
      simp only [x_Md_fits_24, x_Md_fits_25, x_Md_fits_26, x_Md_fits_27, x_Md_fits_29, rO_101, Option.toList_some, Option.toList_none, List.cons_append, List.nil_append, List.length_cons, List.length_nil, Nat.reduceAdd, Nat.zero_add, Nat.reduceLeDiff, true_and]
      refine md_get ht hi (by omega) ?_
      simp only [x_Md_fits_32, Option.toList_some, Option.toList_none, List.cons_append, List.nil_append, List.length_cons, List.length_nil, Nat.reduceAdd, Nat.zero_add, Nat.reduceLeDiff, true_and]
      by_cases hz : om_mt I t i k = 0
      · rw [if_pos hz]
        simp only [x_Md_fits_47, x_Md_fits_48]
        exact go0 1 (Or.inr rfl) (by rw [ext True (by simp [hz])]; exact ⟨fun _ => ⟨by omega, trivial⟩, fun _ => rfl⟩)
      · rw [if_neg hz]
        simp only [x_Md_fits_35, x_Md_fits_36, x_Md_fits_37]
        by_cases hi5 : 5 ≤ i
        · rw [if_pos hi5]
          simp only [x_Md_fits_51]
          exact go0 0 (Or.inl rfl) (by rw [ext False (by simp [hz]; omega)]; exact ⟨fun q => absurd q (by decide), fun q => q.2.elim⟩)
        · rw [if_neg hi5]
          simp only [x_Md_fits_40, x_Md_fits_42, x_Md_fits_44]
          by_cases hk13 : 13 ≤ k
          · rw [if_pos hk13]
            simp only [x_Md_fits_51]
            exact go0 0 (Or.inl rfl) (by rw [ext False (by simp [hz]; omega)]; exact ⟨fun q => absurd q (by decide), fun q => q.2.elim⟩)
          · rw [if_neg hk13]
            simp only [x_Md_fits_47, x_Md_fits_48]
            exact go0 1 (Or.inr rfl) (by rw [ext True (by simp [hz]; omega)]; exact ⟨fun _ => ⟨by omega, trivial⟩, fun _ => rfl⟩)
theorem md_fits_i {sc : Int × (Int → Int)} {d : Nat} {s : Int} {q : Nat → Int} {I : Nat → Int → Int} {Q : Option om_V → om_H → Prop} {t : Int} (ht : 0 ≤ t ∧ t < 6) (h1 : om_ft (om_mt I t) → Q (some (.inl 1)) (om_O s q, I)) (h0 : ¬ om_ft (om_mt I t) → Q (some (.inl 0)) (om_O s q, I)) : ∀ (m : Nat) (i f : Int) (x : om_V), i + m = 9 → 0 ≤ i → (f = 0 ∨ f = 1) → (f = 1 ↔ ∀ i' k, i' < i → om_mt I t i' k ≠ 0 → i' < 5 ∧ k < 13) → om_R sc (d + 1) 124 4 [.inr (.inl 101), .inl t, .inl f, .inl i, x] [] (om_O s q, I) Q := by
  intro m
  induction m with
  | zero =>
    intro i f x e1 e2 e3 e4
    simp only [x_Md_fits_4, x_Md_fits_5, x_Md_fits_7, x_Md_fits_65, x_Md_fits_66]
    rw [if_pos (by omega)]
    refine ⟨by omega, ?_⟩
    have e5 : f = 1 ↔ om_ft (om_mt I t) := by
      rw [e4]
      constructor
      · intro g i' k hk
        have hi : i' < 9 := Decidable.byContradiction (fun q => hk (om_mt_su i' k (by omega)))
        have := g i' k (by omega) hk
        omega
      · intro g i' k _ hk
        have := g i' k hk
        omega
    by_cases hf : f = 1
    · rw [hf]
      exact h1 (e5.mp hf)
    · rw [show f = 0 by omega]
      exact h0 (fun q => hf (e5.mpr q))
  | succ m ih =>
    intro i f x e1 e2 e3 e4
    simp only [x_Md_fits_4, x_Md_fits_5, x_Md_fits_7, x_Md_fits_10, x_Md_fits_11]
    rw [if_neg (by omega)]
    refine md_fits_k ht (by omega) e3 (fun f' => f' = 1 ↔ ∀ i' k, i' < i + 1 → om_mt I t i' k ≠ 0 → i' < 5 ∧ k < 13) (fun f' g1 g2 => ?_) (fun f' g1 g2 => ?_) 64 0 f (by omega) (by omega) e3 ⟨fun q => ⟨q, fun k' b1 b2 => absurd b1 (by omega)⟩, fun q => q.1⟩
    · simp only [x_Md_fits_59, x_Md_fits_62]
      exact ⟨⟨by omega, by omega⟩, ih _ _ _ (by omega) (by omega) g1 g2⟩
    · rw [g2, e4]
      constructor
      · rintro ⟨a1, a2⟩ i' k b1 b2
        by_cases hii : i' = i
        · subst hii
          have hk : 0 ≤ k ∧ k < 64 := Decidable.byContradiction (fun q => b2 (om_mt_su i' k (by omega)))
          exact a2 k hk.1 hk.2 b2
        · exact a1 i' k (by omega) b2
      · intro a1
        exact ⟨fun i' k b1 b2 => a1 i' k (by omega) b2, fun k _ _ b2 => a1 i k (by omega) b2⟩
theorem md_fits {sc : Int × (Int → Int)} {d : Nat} {s : Int} {q : Nat → Int} {I : Nat → Int → Int} {Q : Option om_V → om_H → Prop} {t : Int} (ht : 0 ≤ t ∧ t < 6) (h1 : om_ft (om_mt I t) → Q (some (.inl 1)) (om_O s q, I)) (h0 : ¬ om_ft (om_mt I t) → Q (some (.inl 0)) (om_O s q, I)) : om_R sc (d + 1) 124 0 [.inr (.inl 101), .inl t, om_un, om_un, om_un] [] (om_O s q, I) Q := by
  simp only [x_Md_fits_0, x_Md_fits_1, x_Md_fits_2, x_Md_fits_3]
  exact md_fits_i ht h1 h0 9 0 1 _ (by omega) (by omega) (Or.inr rfl) ⟨fun _ i' k b1 b2 => absurd (om_mt_su i' k (by omega)) b2, fun _ => rfl⟩
/-- only register h of the reference changes -/
def om_fh (I I' : Nat → Int → Int) (h : Int) : Prop := (∀ b, b ≠ 102 → I' b = I b) ∧ ∀ h', h' ≠ h → om_hd I' h' = om_hd I h'
theorem om_fh_rf {I : Nat → Int → Int} {h : Int} : om_fh I I h := ⟨fun _ _ => rfl, fun _ _ => rfl⟩
theorem om_fh_tr {I I1 I2 : Nat → Int → Int} {h : Int} (h1 : om_fh I I1 h) (h2 : om_fh I1 I2 h) : om_fh I I2 h := ⟨fun b hb => by rw [h2.1 b hb, h1.1 b hb], fun t' ht => by rw [h2.2 t' ht, h1.2 t' ht]⟩
theorem om_hd_p {I : Nat → Int → Int} {h i k v : Int} (h1 : 0 ≤ h) (h2 : h < 18) (h3 : 0 ≤ i) (h4 : i < 5) (h5 : 0 ≤ k) (h6 : k < 13) (h' i' k' : Int) : om_hd (om_u I 102 (om_p (I 102) (65 * h + 13 * i + k) v)) h' i' k' = if h' = h ∧ i' = i ∧ k' = k then v else om_hd I h' i' k' := by
  unfold om_hd
  by_cases hin : 0 ≤ h' ∧ h' < 18 ∧ 0 ≤ i' ∧ i' < 5 ∧ 0 ≤ k' ∧ k' < 13
  · rw [if_pos hin, if_pos hin, om_u_eq]
    by_cases he : h' = h ∧ i' = i ∧ k' = k
    · rw [if_pos he, he.1, he.2.1, he.2.2, om_p_eq]
    · rw [if_neg he, om_p_ne (by omega)]
  · rw [if_neg hin, if_neg hin, if_neg (by omega)]
theorem om_fh_p {I : Nat → Int → Int} {h i k v : Int} (h1 : 0 ≤ h) (h2 : h < 18) (h3 : 0 ≤ i) (h4 : i < 5) (h5 : 0 ≤ k) (h6 : k < 13) : om_fh I (om_u I 102 (om_p (I 102) (65 * h + 13 * i + k) v)) h := by
  refine ⟨fun b hb => om_u_ne hb, fun t' ht => ?_⟩
  funext i' k'
  rw [om_hd_p h1 h2 h3 h4 h5 h6, if_neg (fun q => ht q.1)]
theorem om_fh_mt {I I' : Nat → Int → Int} {h : Int} (hf : om_fh I I' h) : om_mt I' = om_mt I := by
  funext t i k
  unfold om_mt
  rw [hf.1 103 (by decide)]
theorem om_fr_hd {I I' : Nat → Int → Int} {t : Int} (hf : om_fr I I' t) : om_hd I' = om_hd I := by
  funext h i k
  unfold om_hd
  rw [hf.1 102 (by decide)]
theorem md_store_k {sc : Int × (Int → Int)} {d : Nat} {s : Int} {q : Nat → Int} {Q : Option om_V → om_H → Prop} {t h i : Int} (ht : 0 ≤ t ∧ t < 6) (hh : 0 ≤ h ∧ h < 18) (hi : 0 ≤ i ∧ i < 5) (K : (Nat → Int → Int) → Prop) (hK : ∀ I', K I' → om_R sc (d + 1) 126 48 [.inr (.inl 101), .inl t, .inl h, .inl i, .inl 13] [] (om_O s q, I') Q) : ∀ (m : Nat) (k : Int) (I : Nat → Int → Int), k + m = 13 → 0 ≤ k → (∀ I', om_fh I I' h → (∀ i' k', om_hd I' h i' k' = if i' = i ∧ k ≤ k' ∧ k' < 13 then om_mt I t i k' else om_hd I h i' k') → K I') → om_R sc (d + 1) 126 10 [.inr (.inl 101), .inl t, .inl h, .inl i, .inl k] [] (om_O s q, I) Q := by
  intro m
  induction m with
  | zero =>
    intro k I h1 h2 hq
    simp only [x_Md_store_10, x_Md_store_12, x_Md_store_14]
    rw [if_pos (by omega)]
    have hk : k = 13 := by omega
    subst hk
    exact hK I (hq I om_fh_rf (fun i' k' => by rw [if_neg (by omega)]))
  | succ m ih =>
    intro k I h1 h2 hq
    simp only [x_Md_store_10, x_Md_store_12, x_Md_store_14]
    rw [if_neg (by omega)]
    simp only [x_Md_store_17, x_Md_store_18, x_Md_store_21, x_Md_store_23, x_Md_store_24, x_Md_store_25, x_Md_store_27, x_Md_store_28, x_Md_store_29, x_Md_store_30, x_Md_store_32, x_Md_store_33, x_Md_store_34, x_Md_store_35, x_Md_store_36, x_Md_store_38, gO_101_1, rO_101, Option.toList_some, Option.toList_none, List.cons_append, List.nil_append, List.length_cons, List.length_nil, Nat.reduceAdd, Nat.zero_add, Nat.reduceLeDiff, true_and]
    refine ⟨⟨by omega, by omega⟩, ⟨by omega, by omega⟩, ⟨by omega, by omega⟩, ⟨by omega, by omega⟩, md_get ht (by omega) (by omega) ?_⟩
    simp only [x_Md_store_41, x_Md_store_42, x_Md_store_45, aO_102, Option.toList_some, Option.toList_none, List.cons_append, List.nil_append, List.length_cons, List.length_nil, Nat.reduceAdd, Nat.zero_add, Nat.reduceLeDiff, true_and]
    have hf : ∀ v, om_fh I (om_u I 102 (om_p (I 102) (65 * h + 13 * i + k) v)) h := fun v => om_fh_p hh.1 hh.2 (by omega) (by omega) (by omega) (by omega)
    refine ⟨⟨by omega, by omega⟩, ⟨by omega, by omega⟩, ih _ _ (by omega) (by omega) (fun I' f1 f2 => hq I' (om_fh_tr (hf _) f1) (fun i' k' => ?_))⟩
    rw [f2 i' k', om_hd_p hh.1 hh.2 (by omega) (by omega) (by omega) (by omega), om_fh_mt (hf _)]
    by_cases hc : i' = i ∧ k ≤ k' ∧ k' < 13
    · rw [if_pos hc]
      by_cases hk : k' = k
      · rw [if_neg (by omega), if_pos ⟨rfl, hc.1, hk⟩, hk]
      · rw [if_pos (by omega)]
    · rw [if_neg hc, if_neg (by omega), if_neg (by omega)]
theorem md_store_i {sc : Int × (Int → Int)} {d : Nat} {s : Int} {q : Nat → Int} {Q : Option om_V → om_H → Prop} {t h : Int} (ht : 0 ≤ t ∧ t < 6) (hh : 0 ≤ h ∧ h < 18) : ∀ (m : Nat) (i : Int) (x : om_V) (I : Nat → Int → Int), i + m = 5 → 0 ≤ i → (∀ I', om_fh I I' h → (∀ i' k', om_hd I' h i' k' = if i ≤ i' ∧ i' < 5 ∧ 0 ≤ k' ∧ k' < 13 then om_mt I t i' k' else om_hd I h i' k') → Q none (om_O s q, I')) → om_R sc (d + 1) 126 2 [.inr (.inl 101), .inl t, .inl h, .inl i, x] [] (om_O s q, I) Q := by
  intro m
  induction m with
  | zero =>
    intro i x I h1 h2 hq
    simp only [x_Md_store_2, x_Md_store_3, x_Md_store_4, x_Md_store_54]
    rw [if_pos (by omega)]
    exact hq I om_fh_rf (fun i' k' => by rw [if_neg (by omega)])
  | succ m ih =>
    intro i x I h1 h2 hq
    simp only [x_Md_store_2, x_Md_store_3, x_Md_store_4, x_Md_store_7, x_Md_store_8]
    rw [if_neg (by omega)]
    refine md_store_k ht hh (by omega) (fun I1 => om_fh I I1 h ∧ ∀ i' k', om_hd I1 h i' k' = if i' = i ∧ 0 ≤ k' ∧ k' < 13 then om_mt I t i k' else om_hd I h i' k') (fun I1 ⟨f1, f2⟩ => ?_) 13 0 I (by omega) (by omega) (fun I1 f1 f2 => ⟨f1, f2⟩)
    simp only [x_Md_store_48, x_Md_store_51]
    refine ⟨⟨by omega, by omega⟩, ih _ _ _ (by omega) (by omega) (fun I' f3 f4 => hq I' (om_fh_tr f1 f3) (fun i' k' => ?_))⟩
    rw [f4 i' k', f2 i' k', om_fh_mt f1]
    by_cases hc : i ≤ i' ∧ i' < 5 ∧ 0 ≤ k' ∧ k' < 13
    · rw [if_pos hc]
      by_cases hk : i' = i
      · rw [if_neg (by omega), if_pos (by omega), hk]
      · rw [if_pos (by omega)]
    · rw [if_neg hc, if_neg (by omega), if_neg (by omega)]
theorem md_store {sc : Int × (Int → Int)} {d : Nat} {s : Int} {q : Nat → Int} {I : Nat → Int → Int} {Q : Option om_V → om_H → Prop} {t h : Int} (ht : 0 ≤ t ∧ t < 6) (hh : 0 ≤ h ∧ h < 18) (hq : ∀ I', om_fh I I' h → (∀ i' k', om_hd I' h i' k' = if i' < 5 ∧ k' < 13 then om_mt I t i' k' else 0) → Q none (om_O s q, I')) : om_R sc (d + 1) 126 0 [.inr (.inl 101), .inl t, .inl h, om_un, om_un] [] (om_O s q, I) Q := by
  simp only [x_Md_store_0, x_Md_store_1]
  refine md_store_i ht hh 5 0 _ I (by omega) (by omega) (fun I' f1 f2 => hq I' f1 (fun i' k' => ?_))
  rw [f2 i' k']
  by_cases hc : 0 ≤ i' ∧ i' < 5 ∧ 0 ≤ k' ∧ k' < 13
  · rw [if_pos hc, if_pos (by omega)]
  · rw [if_neg hc, om_hd_su i' k' hc]
    by_cases hc2 : i' < 5 ∧ k' < 13
    · rw [if_pos hc2, om_mt_su i' k' (by omega)]
    · rw [if_neg hc2]
theorem md_keep {sc : Int × (Int → Int)} {d : Nat} {s : Int} {q : Nat → Int} {I : Nat → Int → Int} {Q : Option om_V → om_H → Prop} {t h : Int} (ht : 0 ≤ t ∧ t < 6) (hh : 0 ≤ h ∧ h < 18) (h0 : ¬ om_ft (om_mt I t) → Q (some (.inl (-3))) (om_O s q, I)) (h1 : om_ft (om_mt I t) → ∀ I', om_fh I I' h → om_hd I' h = om_mt I t → Q (some (.inl 0)) (om_O s q, I')) : om_R sc (d + 2) 125 0 [.inr (.inl 101), .inl t, .inl h] [] (om_O s q, I) Q := by
  simp only [x_Md_keep_0, x_Md_keep_1, x_Md_keep_2, rO_101, Option.toList_some, Option.toList_none, List.cons_append, List.nil_append, List.length_cons, List.length_nil, Nat.reduceAdd, Nat.zero_add, Nat.reduceLeDiff, true_and]
  refine md_fits ht (fun hf => ?_) (fun hf => ?_)
  · simp only [x_Md_keep_5, Option.toList_some, Option.toList_none, List.cons_append, List.nil_append, List.length_cons, List.length_nil, Nat.reduceAdd, Nat.zero_add, Nat.reduceLeDiff, true_and]
    rw [if_neg (by decide)]
    simp only [x_Md_keep_11, x_Md_keep_12, x_Md_keep_13, x_Md_keep_14, rO_101, Option.toList_some, Option.toList_none, List.cons_append, List.nil_append, List.length_cons, List.length_nil, Nat.reduceAdd, Nat.zero_add, Nat.reduceLeDiff, true_and]
    refine md_store ht hh (fun I' f1 f2 => ?_)
    simp only [x_Md_keep_17, x_Md_keep_18, Option.toList_some, Option.toList_none, List.cons_append, List.nil_append, List.length_cons, List.length_nil, Nat.reduceAdd, Nat.zero_add, Nat.reduceLeDiff, true_and]
    refine h1 hf I' f1 ?_
    funext i k
    rw [f2 i k]
    split
    · rfl
    · rename_i hn
      have e : om_mt I t i k = 0 := Decidable.byContradiction (fun q => hn (by have := hf i k q; omega))
      rw [e]
  · simp only [x_Md_keep_5, Option.toList_some, Option.toList_none, List.cons_append, List.nil_append, List.length_cons, List.length_nil, Nat.reduceAdd, Nat.zero_add, Nat.reduceLeDiff, true_and, if_true]
    simp only [x_Md_keep_8, x_Md_keep_10]
    exact h0 hf
