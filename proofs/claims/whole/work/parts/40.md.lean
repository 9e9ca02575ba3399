/-! the reference's tables -/
def om_mt (I : Nat → Int → Int) (t i k : Int) : Int := if 0 ≤ t ∧ t < 6 ∧ 0 ≤ i ∧ i < 9 ∧ 0 ≤ k ∧ k < 64 then I 103 (576 * t + 64 * i + k) else 0
def om_hd (I : Nat → Int → Int) (h i k : Int) : Int := if 0 ≤ h ∧ h < 18 ∧ 0 ≤ i ∧ i < 5 ∧ 0 ≤ k ∧ k < 13 then I 102 (65 * h + 13 * i + k) else 0
def om_fr (I I' : Nat → Int → Int) (t : Int) : Prop := (∀ b, b ≠ 103 → I' b = I b) ∧ ∀ t', t' ≠ t → om_mt I' t' = om_mt I t'
theorem om_fr_rf {I : Nat → Int → Int} {t : Int} : om_fr I I t := ⟨fun _ _ => rfl, fun _ _ => rfl⟩
theorem om_fr_tr {I I1 I2 : Nat → Int → Int} {t : Int} (h1 : om_fr I I1 t) (h2 : om_fr I1 I2 t) : om_fr I I2 t := ⟨fun b hb => by rw [h2.1 b hb, h1.1 b hb], fun t' ht => by rw [h2.2 t' ht, h1.2 t' ht]⟩
theorem om_mt_in {I : Nat → Int → Int} {t i k : Int} (h1 : 0 ≤ t) (h2 : t < 6) (h3 : 0 ≤ i) (h4 : i < 9) (h5 : 0 ≤ k) (h6 : k < 64) : om_mt I t i k = I 103 (576 * t + 64 * i + k) := if_pos ⟨h1, h2, h3, h4, h5, h6⟩
theorem om_mt_su {I : Nat → Int → Int} {t : Int} : om_su 9 64 (om_mt I t) := fun i k h => if_neg (by omega)
theorem om_mt_p {I : Nat → Int → Int} {t i k v : Int} (h1 : 0 ≤ t) (h2 : t < 6) (h3 : 0 ≤ i) (h4 : i < 9) (h5 : 0 ≤ k) (h6 : k < 64) (t' i' k' : Int) : om_mt (om_u I 103 (om_p (I 103) (576 * t + 64 * i + k) v)) t' i' k' = if t' = t ∧ i' = i ∧ k' = k then v else om_mt I t' i' k' := by
  unfold om_mt
  by_cases hin : 0 ≤ t' ∧ t' < 6 ∧ 0 ≤ i' ∧ i' < 9 ∧ 0 ≤ k' ∧ k' < 64
  · rw [if_pos hin, if_pos hin, om_u_eq]
    by_cases he : t' = t ∧ i' = i ∧ k' = k
    · rw [if_pos he, he.1, he.2.1, he.2.2, om_p_eq]
    · rw [if_neg he, om_p_ne (by omega)]
  · rw [if_neg hin, if_neg hin, if_neg (by omega)]
theorem om_fr_p {I : Nat → Int → Int} {t i k v : Int} (h1 : 0 ≤ t) (h2 : t < 6) (h3 : 0 ≤ i) (h4 : i < 9) (h5 : 0 ≤ k) (h6 : k < 64) : om_fr I (om_u I 103 (om_p (I 103) (576 * t + 64 * i + k) v)) t := by
  refine ⟨fun b hb => om_u_ne hb, fun t' ht => ?_⟩
  funext i' k'
  rw [om_mt_p h1 h2 h3 h4 h5 h6, if_neg (fun q => ht q.1)]
theorem md_get {sc : Int × (Int → Int)} {d : Nat} {s : Int} {q : Nat → Int} {I : Nat → Int → Int} {Q : Option om_V → om_H → Prop} {t i k : Int} (ht : 0 ≤ t ∧ t < 6) (hi : 0 ≤ i ∧ i < 9) (hk : 0 ≤ k ∧ k < 64) (hq : Q (some (.inl (om_mt I t i k))) (om_O s q, I)) : om_R sc d 119 0 [.inr (.inl 101), .inl t, .inl i, .inl k] [] (om_O s q, I) Q := by
  rw [om_mt_in ht.1 ht.2 hi.1 hi.2 hk.1 hk.2] at hq
  simp only [x_Md_get_0, x_Md_get_1, x_Md_get_4, x_Md_get_7, x_Md_get_8, x_Md_get_9, x_Md_get_11, x_Md_get_12, x_Md_get_13, x_Md_get_14, x_Md_get_15, x_Md_get_16, x_Md_get_17, gO_101_2, aO_103]
  exact ⟨⟨by omega, by omega⟩, ⟨by omega, by omega⟩, ⟨by omega, by omega⟩, ⟨by omega, by omega⟩, ⟨by omega, by omega⟩, hq⟩
theorem md_mod {sc : Int × (Int → Int)} {d : Nat} {h : om_H} {Q : Option om_V → om_H → Prop} {v : Int} (hq : Q (some (.inl (v % 31))) h) : om_R sc d 111 0 [.inl v, om_un] [] h Q := by
  obtain ⟨t1, t2⟩ := om_tmb v
  have e := om_tm v
  simp only [x_Md_mod_0, x_Md_mod_1, x_Md_mod_3, x_Md_mod_4, x_Md_mod_5, x_Md_mod_6, x_Md_mod_9, x_Md_mod_10, x_Md_mod_12, x_Md_mod_13, x_Md_mod_16, x_Md_mod_17]
  refine ⟨by decide, ?_⟩
  by_cases q5 : 0 ≤ Int.tmod v 31
  · rw [if_pos q5] at e
    rw [if_pos q5, e]
    exact hq
  · rw [if_neg q5] at e
    rw [if_neg q5, e]
    exact ⟨⟨by omega, by omega⟩, hq⟩
theorem md_plus {sc : Int × (Int → Int)} {d : Nat} {s : Int} {q : Nat → Int} {I : Nat → Int → Int} {Q : Option om_V → om_H → Prop} {t i k v : Int} (ht : 0 ≤ t ∧ t < 6) (hi : 0 ≤ i ∧ i < 9) (hk : 0 ≤ k ∧ k < 64) (hv : -1000000 ≤ v ∧ v ≤ 1000000) (hr : 0 ≤ om_mt I t i k ∧ om_mt I t i k < 31) (hq : ∀ I', om_fr I I' t → (∀ i' k', om_mt I' t i' k' = if i' = i ∧ k' = k then (om_mt I t i k + v) % 31 else om_mt I t i' k') → Q none (om_O s q, I')) : om_R sc (d + 1) 121 0 [.inr (.inl 101), .inl t, .inl i, .inl k, .inl v, om_un] [] (om_O s q, I) Q := by
  have e := om_mt_in (I := I) ht.1 ht.2 hi.1 hi.2 hk.1 hk.2
  simp only [x_Md_plus_0, x_Md_plus_3, x_Md_plus_4, x_Md_plus_5, x_Md_plus_7, x_Md_plus_8, x_Md_plus_9, x_Md_plus_10, x_Md_plus_11, x_Md_plus_12, x_Md_plus_14, x_Md_plus_15, x_Md_plus_18, x_Md_plus_20, x_Md_plus_21, x_Md_plus_24, x_Md_plus_26, x_Md_plus_27, x_Md_plus_29, x_Md_plus_30, gO_101_2, aO_103, Option.toList_some, Option.toList_none, List.cons_append, List.nil_append, List.length_cons, List.length_nil, Nat.reduceAdd, Nat.zero_add, Nat.reduceLeDiff, true_and, ← e]
  refine ⟨⟨by omega, by omega⟩, ⟨by omega, by omega⟩, ⟨by omega, by omega⟩, ⟨by omega, by omega⟩, ⟨by omega, by omega⟩, ⟨by omega, by omega⟩, md_mod ?_⟩
  simp only [x_Md_plus_33, x_Md_plus_34, aO_103, Option.toList_some, Option.toList_none, List.cons_append, List.nil_append, List.length_cons, List.length_nil, Nat.reduceAdd, Nat.zero_add, Nat.reduceLeDiff, true_and]
  refine ⟨⟨by omega, by omega⟩, hq _ (om_fr_p ht.1 ht.2 hi.1 hi.2 hk.1 hk.2) (fun i' k' => ?_)⟩
  rw [om_mt_p ht.1 ht.2 hi.1 hi.2 hk.1 hk.2]
  by_cases hc : i' = i ∧ k' = k
  · rw [if_pos ⟨rfl, hc⟩, if_pos hc]
  · rw [if_neg (fun q => hc q.2), if_neg hc]
/-- a place of a table as its row and column -/
theorem om_mt_z {t z : Int} (ht : 0 ≤ t ∧ t < 6) (hz : 0 ≤ z ∧ z < 576) : 576 * t + z = 576 * t + 64 * (z / 64) + z % 64 := by omega
theorem md_wipe_l {sc : Int × (Int → Int)} {d : Nat} {s : Int} {q : Nat → Int} {Q : Option om_V → om_H → Prop} {t : Int} (ht : 0 ≤ t ∧ t < 6) : ∀ (m : Nat) (z : Int) (I : Nat → Int → Int), z + m = 576 → 0 ≤ z → (∀ i k, 64 * i + k < z → 0 ≤ k → k < 64 → om_mt I t i k = 0) → (∀ I', om_fr I I' t → om_mt I' t = (fun _ _ => 0) → Q none (om_O s q, I')) → om_R sc d 113 2 [.inr (.inl 101), .inl t, .inl z] [] (om_O s q, I) Q := by
  intro m
  induction m with
  | zero =>
    intro z I h1 h2 hI hq
    simp only [x_Md_wipe_2, x_Md_wipe_3, x_Md_wipe_6, x_Md_wipe_28]
    rw [if_pos (by omega)]
    refine hq I om_fr_rf ?_
    funext i k
    by_cases hk : 0 ≤ i ∧ i < 9 ∧ 0 ≤ k ∧ k < 64
    · exact hI i k (by omega) (by omega) (by omega)
    · exact om_mt_su i k hk
  | succ m ih =>
    intro z I h1 h2 hI hq
    simp only [x_Md_wipe_2, x_Md_wipe_3, x_Md_wipe_6]
    rw [if_neg (by omega)]
    simp only [x_Md_wipe_9, x_Md_wipe_10, x_Md_wipe_13, x_Md_wipe_16, x_Md_wipe_17, x_Md_wipe_18, x_Md_wipe_19, x_Md_wipe_20, x_Md_wipe_21, x_Md_wipe_22, x_Md_wipe_25, gO_101_2, aO_103]
    rw [om_mt_z ht (by omega)]
    have hf : om_fr I (om_u I 103 (om_p (I 103) (576 * t + 64 * (z / 64) + z % 64) 0)) t := om_fr_p ht.1 ht.2 (by omega) (by omega) (by omega) (by omega)
    refine ⟨⟨by omega, by omega⟩, ⟨by omega, by omega⟩, ⟨by omega, by omega⟩, ⟨by omega, by omega⟩, ih _ _ (by omega) (by omega) (fun i k q1 q2 q3 => ?_) (fun I' f1 f2 => hq I' (om_fr_tr hf f1) f2)⟩
    rw [om_mt_p ht.1 ht.2 (by omega) (by omega) (by omega) (by omega)]
    split
    · rfl
    · exact hI i k (by omega) q2 q3
theorem md_wipe {sc : Int × (Int → Int)} {d : Nat} {s : Int} {q : Nat → Int} {I : Nat → Int → Int} {Q : Option om_V → om_H → Prop} {t : Int} (ht : 0 ≤ t ∧ t < 6) (hq : ∀ I', om_fr I I' t → om_mt I' t = (fun _ _ => 0) → Q none (om_O s q, I')) : om_R sc d 113 0 [.inr (.inl 101), .inl t, om_un] [] (om_O s q, I) Q := by
  simp only [x_Md_wipe_0, x_Md_wipe_1]
  exact md_wipe_l ht 576 0 I (by omega) (by omega) (fun i k q1 q2 q3 => om_mt_su i k (by omega)) hq
theorem md_copy_l {sc : Int × (Int → Int)} {d : Nat} {s : Int} {q : Nat → Int} {Q : Option om_V → om_H → Prop} {t f : Int} (ht : 0 ≤ t ∧ t < 6) (hf0 : 0 ≤ f ∧ f < 6) (hne : f ≠ t) : ∀ (m : Nat) (z : Int) (I : Nat → Int → Int), z + m = 576 → 0 ≤ z → (∀ i k, 64 * i + k < z → 0 ≤ k → k < 64 → om_mt I t i k = om_mt I f i k) → (∀ I', om_fr I I' t → om_mt I' t = om_mt I f → Q none (om_O s q, I')) → om_R sc d 115 2 [.inr (.inl 101), .inl f, .inl t, .inl z] [] (om_O s q, I) Q := by
  intro m
  induction m with
  | zero =>
    intro z I h1 h2 hI hq
    simp only [x_Md_copy_2, x_Md_copy_3, x_Md_copy_6, x_Md_copy_39]
    rw [if_pos (by omega)]
    refine hq I om_fr_rf ?_
    funext i k
    by_cases hk : 0 ≤ i ∧ i < 9 ∧ 0 ≤ k ∧ k < 64
    · exact hI i k (by omega) (by omega) (by omega)
    · rw [om_mt_su i k hk, om_mt_su i k hk]
  | succ m ih =>
    intro z I h1 h2 hI hq
    simp only [x_Md_copy_2, x_Md_copy_3, x_Md_copy_6]
    rw [if_neg (by omega)]
    simp only [x_Md_copy_9, x_Md_copy_10, x_Md_copy_13, x_Md_copy_16, x_Md_copy_17, x_Md_copy_18, x_Md_copy_19, x_Md_copy_20, x_Md_copy_21, x_Md_copy_24, x_Md_copy_27, x_Md_copy_28, x_Md_copy_29, x_Md_copy_30, x_Md_copy_31, x_Md_copy_32, x_Md_copy_33, x_Md_copy_36, gO_101_2, aO_103]
    rw [om_mt_z ht (by omega), om_mt_z hf0 (by omega), ← om_mt_in (I := I) hf0.1 hf0.2 (show 0 ≤ z / 64 by omega) (by omega) (show 0 ≤ z % 64 by omega) (by omega)]
    have hf : ∀ v, om_fr I (om_u I 103 (om_p (I 103) (576 * t + 64 * (z / 64) + z % 64) v)) t := fun v => om_fr_p ht.1 ht.2 (by omega) (by omega) (by omega) (by omega)
    refine ⟨⟨by omega, by omega⟩, ⟨by omega, by omega⟩, ⟨by omega, by omega⟩, ⟨by omega, by omega⟩, ⟨by omega, by omega⟩, ⟨by omega, by omega⟩, ⟨by omega, by omega⟩, ih _ _ (by omega) (by omega) (fun i k q1 q2 q3 => ?_) (fun I' f1 f2 => hq I' (om_fr_tr (hf _) f1) (by rw [f2, (hf _).2 f hne]))⟩
    rw [om_mt_p ht.1 ht.2 (by omega) (by omega) (by omega) (by omega), (hf _).2 f hne]
    split
    · rename_i hc
      rw [hc.2.1, hc.2.2]
    · exact hI i k (by omega) q2 q3
theorem md_copy {sc : Int × (Int → Int)} {d : Nat} {s : Int} {q : Nat → Int} {I : Nat → Int → Int} {Q : Option om_V → om_H → Prop} {t f : Int} (ht : 0 ≤ t ∧ t < 6) (hf0 : 0 ≤ f ∧ f < 6) (hne : f ≠ t) (hq : ∀ I', om_fr I I' t → om_mt I' t = om_mt I f → Q none (om_O s q, I')) : om_R sc d 115 0 [.inr (.inl 101), .inl f, .inl t, om_un] [] (om_O s q, I) Q := by
  simp only [x_Md_copy_0, x_Md_copy_1]
  exact md_copy_l ht hf0 hne 576 0 I (by omega) (by omega) (fun i k q1 q2 q3 => by rw [om_mt_su i k (by omega), om_mt_su i k (by omega)]) hq
theorem md_load_k {sc : Int × (Int → Int)} {d : Nat} {s : Int} {q : Nat → Int} {Q : Option om_V → om_H → Prop} {t h i : Int} (ht : 0 ≤ t ∧ t < 6) (hh : 0 ≤ h ∧ h < 18) (hi : 0 ≤ i ∧ i < 5) (K : (Nat → Int → Int) → Prop) (hK : ∀ I', K I' → om_R sc (d + 1) 112 63 [.inr (.inl 101), .inl t, .inl h, .inl i, .inl 13] [] (om_O s q, I') Q) : ∀ (m : Nat) (k : Int) (I : Nat → Int → Int), k + m = 13 → 0 ≤ k → (∀ I', om_fr I I' t → (∀ i' k', om_mt I' t i' k' = if i' = i ∧ k ≤ k' ∧ k' < 13 then om_hd I h i k' else om_mt I t i' k') → K I') → om_R sc (d + 1) 112 15 [.inr (.inl 101), .inl t, .inl h, .inl i, .inl k] [] (om_O s q, I) Q := by
  intro m
  induction m with
  | zero =>
    intro k I h1 h2 hq
    simp only [x_Md_load_15, x_Md_load_17, x_Md_load_19]
    rw [if_pos (by omega)]
    have hk : k = 13 := by omega
    subst hk
    exact hK I (hq I om_fr_rf (fun i' k' => by rw [if_neg (by omega)]))
  | succ m ih =>
    intro k I h1 h2 hq
    simp only [x_Md_load_15, x_Md_load_17, x_Md_load_19]
    rw [if_neg (by omega)]
    simp only [x_Md_load_22, x_Md_load_23, x_Md_load_26, x_Md_load_29, x_Md_load_30, x_Md_load_31, x_Md_load_33, x_Md_load_34, x_Md_load_35, x_Md_load_36, x_Md_load_38, x_Md_load_39, x_Md_load_40, x_Md_load_43, x_Md_load_45, x_Md_load_46, x_Md_load_47, x_Md_load_49, x_Md_load_50, x_Md_load_51, x_Md_load_52, x_Md_load_54, x_Md_load_55, x_Md_load_56, x_Md_load_57, x_Md_load_60, gO_101_1, gO_101_2, aO_102, aO_103]
    have e : I 102 (65 * h + 13 * i + k) = om_hd I h i k := (if_pos (by omega)).symm
    rw [e]
    have hf : ∀ v, om_fr I (om_u I 103 (om_p (I 103) (576 * t + 64 * i + k) v)) t := fun v => om_fr_p ht.1 ht.2 (by omega) (by omega) (by omega) (by omega)
    refine ⟨⟨by omega, by omega⟩, ⟨by omega, by omega⟩, ⟨by omega, by omega⟩, ⟨by omega, by omega⟩, ⟨by omega, by omega⟩, ⟨by omega, by omega⟩, ⟨by omega, by omega⟩, ⟨by omega, by omega⟩, ⟨by omega, by omega⟩, ⟨by omega, by omega⟩, ⟨by omega, by omega⟩, ih _ _ (by omega) (by omega) (fun I' f1 f2 => hq I' (om_fr_tr (hf _) f1) (fun i' k' => ?_))⟩
    rw [f2 i' k', om_mt_p ht.1 ht.2 (by omega) (by omega) (by omega) (by omega)]
    have e2 : om_hd (om_u I 103 (om_p (I 103) (576 * t + 64 * i + k) (om_hd I h i k))) h i k' = om_hd I h i k' := by
      unfold om_hd
      rw [om_u_ne (by decide)]
    rw [e2]
    by_cases hc : i' = i ∧ k ≤ k' ∧ k' < 13
    · rw [if_pos hc]
      by_cases hk : k' = k
      · rw [if_neg (by omega), if_pos ⟨rfl, hc.1, hk⟩, hk]
      · rw [if_pos (by omega)]
    · rw [if_neg hc, if_neg (by omega), if_neg (by omega)]
theorem md_load_i {sc : Int × (Int → Int)} {d : Nat} {s : Int} {q : Nat → Int} {Q : Option om_V → om_H → Prop} {t h : Int} (ht : 0 ≤ t ∧ t < 6) (hh : 0 ≤ h ∧ h < 18) : ∀ (m : Nat) (i : Int) (x : om_V) (I : Nat → Int → Int), i + m = 5 → 0 ≤ i → (∀ I', om_fr I I' t → (∀ i' k', om_mt I' t i' k' = if i ≤ i' ∧ i' < 5 ∧ 0 ≤ k' ∧ k' < 13 then om_hd I h i' k' else om_mt I t i' k') → Q none (om_O s q, I')) → om_R sc (d + 1) 112 7 [.inr (.inl 101), .inl t, .inl h, .inl i, x] [] (om_O s q, I) Q := by
  intro m
  induction m with
  | zero =>
    intro i x I h1 h2 hq
    simp only [x_Md_load_7, x_Md_load_8, x_Md_load_9, x_Md_load_69]
    rw [if_pos (by omega)]
    exact hq I om_fr_rf (fun i' k' => by rw [if_neg (by omega)])
  | succ m ih =>
    intro i x I h1 h2 hq
    simp only [x_Md_load_7, x_Md_load_8, x_Md_load_9, x_Md_load_12, x_Md_load_13]
    rw [if_neg (by omega)]
    refine md_load_k ht hh (by omega) (fun I1 => om_fr I I1 t ∧ ∀ i' k', om_mt I1 t i' k' = if i' = i ∧ 0 ≤ k' ∧ k' < 13 then om_hd I h i k' else om_mt I t i' k') (fun I1 ⟨f1, f2⟩ => ?_) 13 0 I (by omega) (by omega) (fun I1 f1 f2 => ⟨f1, f2⟩)
    simp only [x_Md_load_63, x_Md_load_66]
    refine ⟨⟨by omega, by omega⟩, ih _ _ _ (by omega) (by omega) (fun I' f3 f4 => hq I' (om_fr_tr f1 f3) (fun i' k' => ?_))⟩
    have e2 : om_hd I1 h i' k' = om_hd I h i' k' := by
      unfold om_hd
      rw [f1.1 102 (by decide)]
    rw [f4 i' k', f2 i' k', e2]
    by_cases hc : i ≤ i' ∧ i' < 5 ∧ 0 ≤ k' ∧ k' < 13
    · rw [if_pos hc]
      by_cases hk : i' = i
      · rw [if_neg (by omega), if_pos (by omega), hk]
      · rw [if_pos (by omega)]
    · rw [if_neg hc, if_neg (by omega), if_neg (by omega)]
theorem om_hd_su {I : Nat → Int → Int} {h : Int} : om_su 5 13 (om_hd I h) := fun i k hn => if_neg (by omega)
theorem md_load {sc : Int × (Int → Int)} {d : Nat} {s : Int} {q : Nat → Int} {I : Nat → Int → Int} {Q : Option om_V → om_H → Prop} {t h : Int} (ht : 0 ≤ t ∧ t < 6) (hh : 0 ≤ h ∧ h < 18) (hq : ∀ I', om_fr I I' t → om_mt I' t = om_hd I h → Q none (om_O s q, I')) : om_R sc (d + 1) 112 0 [.inr (.inl 101), .inl t, .inl h, om_un, om_un] [] (om_O s q, I) Q := by
  simp only [x_Md_load_0, x_Md_load_1, x_Md_load_2, rO_101, Option.toList_some, Option.toList_none, List.cons_append, List.nil_append, List.length_cons, List.length_nil, Nat.reduceAdd, Nat.zero_add, Nat.reduceLeDiff, true_and]
  refine md_wipe ht (fun I1 f1 f2 => ?_)
  simp only [x_Md_load_5, x_Md_load_6, Option.toList_some, Option.toList_none, List.cons_append, List.nil_append, List.length_cons, List.length_nil, Nat.reduceAdd, Nat.zero_add, Nat.reduceLeDiff, true_and]
  refine md_load_i ht hh 5 0 _ I1 (by omega) (by omega) (fun I' f3 f4 => hq I' (om_fr_tr f1 f3) ?_)
  funext i k
  have e2 : om_hd I1 h i k = om_hd I h i k := by
    unfold om_hd
    rw [f1.1 102 (by decide)]
  rw [f4 i k, f2, e2]
  split
  · rfl
  · rename_i hn
    exact (om_hd_su i k hn).symm
