/-! the reference's solve -/
theorem md_red_1 {sc : Int × (Int → Int)} {d : Nat} {s : Int} {q : Nat → Int} {Q : Option om_V → om_H → Prop} {r f : Int} (hr : 0 ≤ r ∧ r < 13) (hf : 0 ≤ f ∧ f < 31) {im : Int → Int} (K : (Nat → Int → Int) → Prop) (hK : ∀ I', K I' → om_R sc (d + 1) 145 65 [.inr (.inl 101), .inl r, .inl f, .inl 25] [] (om_O s q, I') Q) : ∀ (m : Nat) (k : Int) (I : Nat → Int → Int), k + m = 25 → 0 ≤ k → (∀ k, 0 ≤ k → k < 25 → 0 ≤ I 109 (25 * r + k) ∧ I 109 (25 * r + k) < 31) → (∀ k, 0 ≤ k → k < 25 → 0 ≤ im k ∧ im k < 31) → (∀ k', I 112 k' = if 0 ≤ k' ∧ k' < k then (im k' - f * I 109 (25 * r + k')) % 31 else im k') → (∀ I', (∀ b, b ≠ 112 → I' b = I b) → (∀ k', 0 ≤ k' → k' < 25 → I' 112 k' = (im k' - f * I 109 (25 * r + k')) % 31) → K I') → om_R sc (d + 1) 145 24 [.inr (.inl 101), .inl r, .inl f, .inl k] [] (om_O s q, I) Q := by
  intro m
  induction m with
  | zero =>
    intro k I h1 h2 hI hb hk hq
    simp only [x_Md_reduce_24, x_Md_reduce_25, x_Md_reduce_27]
    rw [if_pos (by omega)]
    have e : k = 25 := by omega
    subst e
    exact hK I (hq I (fun _ _ => rfl) (fun k' a b => by rw [hk k', if_pos ⟨a, b⟩]))
  | succ m ih =>
    intro k I h1 h2 hI hb hk hq
    simp only [x_Md_reduce_24, x_Md_reduce_25, x_Md_reduce_27]
    rw [if_neg (by omega)]
    simp only [x_Md_reduce_30, x_Md_reduce_31, x_Md_reduce_34, x_Md_reduce_35, x_Md_reduce_36, x_Md_reduce_39, x_Md_reduce_40, x_Md_reduce_41, x_Md_reduce_42, x_Md_reduce_43, x_Md_reduce_46, x_Md_reduce_48, x_Md_reduce_49, x_Md_reduce_50, x_Md_reduce_51, x_Md_reduce_52, x_Md_reduce_53, x_Md_reduce_54, x_Md_reduce_55, gO_101_17, gO_101_13, aO_112, aO_109, Option.toList_some, Option.toList_none, List.cons_append, List.nil_append, List.length_cons, List.length_nil, Nat.reduceAdd, Nat.zero_add, Nat.reduceLeDiff, true_and]
    have c1 := hI k h2 (by omega)
    have c2 := hb k h2 (by omega)
    have c3 : I 112 k = im k := by rw [hk k, if_neg (by omega)]
    obtain ⟨c4, c5⟩ := om_mb (t := f) (T := 31) (by omega) (by omega) c1.1 c1.2
    refine ⟨by omega, ⟨by omega, by omega⟩, ⟨by omega, by omega⟩, by omega, ⟨by omega, by omega⟩, ⟨by omega, by omega⟩, md_mod ?_⟩
    simp only [x_Md_reduce_58, x_Md_reduce_59, x_Md_reduce_62, aO_112, Option.toList_some, Option.toList_none, List.cons_append, List.nil_append, List.length_cons, List.length_nil, Nat.reduceAdd, Nat.zero_add, Nat.reduceLeDiff, true_and]
    refine ⟨by omega, ⟨by omega, by omega⟩, ih _ _ (by omega) (by omega) (fun k' a b => by rw [om_u_ne (by decide)]; exact hI k' a b) hb (fun k' => ?_) (fun I' f1 f2 => hq I' (fun b hb => by rw [f1 b hb, om_u_ne hb]) (fun k' a b => by rw [f2 k' a b, om_u_ne (by decide)]))⟩
    rw [om_u_eq, om_u_ne (by decide)]
    by_cases e : k' = k
    · rw [e, om_p_eq, if_pos (by omega), c3]
    · rw [om_p_ne e, hk k']
      by_cases h : 0 ≤ k' ∧ k' < k
      · rw [if_pos h, if_pos (by omega)]
      · rw [if_neg h, if_neg (by omega)]
theorem md_red_2 {sc : Int × (Int → Int)} {d : Nat} {s : Int} {q : Nat → Int} {Q : Option om_V → om_H → Prop} {r f : Int} (hr : 0 ≤ r ∧ r < 13) (hf : 0 ≤ f ∧ f < 31) {im : Int → Int} (K : (Nat → Int → Int) → Prop) (hK : ∀ I', K I' → om_R sc (d + 1) 145 108 [.inr (.inl 101), .inl r, .inl f, .inl 13] [] (om_O s q, I') Q) : ∀ (m : Nat) (k : Int) (I : Nat → Int → Int), k + m = 13 → 0 ≤ k → (∀ k, 0 ≤ k → k < 13 → 0 ≤ I 110 (13 * r + k) ∧ I 110 (13 * r + k) < 31) → (∀ k, 0 ≤ k → k < 13 → 0 ≤ im k ∧ im k < 31) → (∀ k', I 113 k' = if 0 ≤ k' ∧ k' < k then (im k' - f * I 110 (13 * r + k')) % 31 else im k') → (∀ I', (∀ b, b ≠ 113 → I' b = I b) → (∀ k', 0 ≤ k' → k' < 13 → I' 113 k' = (im k' - f * I 110 (13 * r + k')) % 31) → K I') → om_R sc (d + 1) 145 67 [.inr (.inl 101), .inl r, .inl f, .inl k] [] (om_O s q, I) Q := by
  intro m
  induction m with
  | zero =>
    intro k I h1 h2 hI hb hk hq
    simp only [x_Md_reduce_67, x_Md_reduce_68, x_Md_reduce_70]
    rw [if_pos (by omega)]
    have e : k = 13 := by omega
    subst e
    exact hK I (hq I (fun _ _ => rfl) (fun k' a b => by rw [hk k', if_pos ⟨a, b⟩]))
  | succ m ih =>
    intro k I h1 h2 hI hb hk hq
    simp only [x_Md_reduce_67, x_Md_reduce_68, x_Md_reduce_70]
    rw [if_neg (by omega)]
    simp only [x_Md_reduce_73, x_Md_reduce_74, x_Md_reduce_77, x_Md_reduce_78, x_Md_reduce_79, x_Md_reduce_82, x_Md_reduce_83, x_Md_reduce_84, x_Md_reduce_85, x_Md_reduce_86, x_Md_reduce_89, x_Md_reduce_91, x_Md_reduce_92, x_Md_reduce_93, x_Md_reduce_94, x_Md_reduce_95, x_Md_reduce_96, x_Md_reduce_97, x_Md_reduce_98, gO_101_18, gO_101_14, aO_113, aO_110, Option.toList_some, Option.toList_none, List.cons_append, List.nil_append, List.length_cons, List.length_nil, Nat.reduceAdd, Nat.zero_add, Nat.reduceLeDiff, true_and]
    have c1 := hI k h2 (by omega)
    have c2 := hb k h2 (by omega)
    have c3 : I 113 k = im k := by rw [hk k, if_neg (by omega)]
    obtain ⟨c4, c5⟩ := om_mb (t := f) (T := 31) (by omega) (by omega) c1.1 c1.2
    refine ⟨by omega, ⟨by omega, by omega⟩, ⟨by omega, by omega⟩, by omega, ⟨by omega, by omega⟩, ⟨by omega, by omega⟩, md_mod ?_⟩
    simp only [x_Md_reduce_101, x_Md_reduce_102, x_Md_reduce_105, aO_113, Option.toList_some, Option.toList_none, List.cons_append, List.nil_append, List.length_cons, List.length_nil, Nat.reduceAdd, Nat.zero_add, Nat.reduceLeDiff, true_and]
    refine ⟨by omega, ⟨by omega, by omega⟩, ih _ _ (by omega) (by omega) (fun k' a b => by rw [om_u_ne (by decide)]; exact hI k' a b) hb (fun k' => ?_) (fun I' f1 f2 => hq I' (fun b hb => by rw [f1 b hb, om_u_ne hb]) (fun k' a b => by rw [f2 k' a b, om_u_ne (by decide)]))⟩
    rw [om_u_eq, om_u_ne (by decide)]
    by_cases e : k' = k
    · rw [e, om_p_eq, if_pos (by omega), c3]
    · rw [om_p_ne e, hk k']
      by_cases h : 0 ≤ k' ∧ k' < k
      · rw [if_pos h, if_pos (by omega)]
      · rw [if_neg h, if_neg (by omega)]
theorem md_tell_1 {sc : Int × (Int → Int)} {d : Nat} {s : Int} {q : Nat → Int} {Q : Option om_V → om_H → Prop} {pv u n : Int} (hn : q 12 = n) (hn0 : 0 ≤ n ∧ n < 13) (hu : 0 ≤ u ∧ u < 31) {im ar : Int → Int} (K : (Nat → Int → Int) → Prop) (hK : ∀ I', K I' → om_R sc (d + 1) 147 49 [.inr (.inl 101), .inl pv, .inl u, .inl 25] [] (om_O s q, I') Q) : ∀ (m : Nat) (k : Int) (I : Nat → Int → Int), k + m = 25 → 0 ≤ k → (∀ k, 0 ≤ k → k < 25 → 0 ≤ im k ∧ im k < 31) → I 112 = im → (∀ z, I 109 z = if 25 * n ≤ z ∧ z < 25 * n + k then (im (z - 25 * n) * u) % 31 else ar z) → (∀ I', (∀ b, b ≠ 109 → I' b = I b) → (∀ z, I' 109 z = if 25 * n ≤ z ∧ z < 25 * n + 25 then (im (z - 25 * n) * u) % 31 else ar z) → K I') → om_R sc (d + 1) 147 12 [.inr (.inl 101), .inl pv, .inl u, .inl k] [] (om_O s q, I) Q := by
  intro m
  induction m with
  | zero =>
    intro k I h1 h2 hb hI hk hq
    simp only [x_Md_tell_12, x_Md_tell_13, x_Md_tell_15]
    rw [if_pos (by omega)]
    have e : k = 25 := by omega
    subst e
    exact hK I (hq I (fun _ _ => rfl) hk)
  | succ m ih =>
    intro k I h1 h2 hb hI hk hq
    simp only [x_Md_tell_12, x_Md_tell_13, x_Md_tell_15]
    rw [if_neg (by omega)]
    simp only [x_Md_tell_18, x_Md_tell_19, x_Md_tell_22, x_Md_tell_24, x_Md_tell_25, x_Md_tell_28, x_Md_tell_29, x_Md_tell_30, x_Md_tell_31, x_Md_tell_32, x_Md_tell_35, x_Md_tell_36, x_Md_tell_37, x_Md_tell_38, x_Md_tell_39, gO_101_17, gO_101_13, gO_101_16, hn, hI, aO_112, aO_109, Option.toList_some, Option.toList_none, List.cons_append, List.nil_append, List.length_cons, List.length_nil, Nat.reduceAdd, Nat.zero_add, Nat.reduceLeDiff, true_and]
    have c1 := hb k h2 (by omega)
    obtain ⟨c4, c5⟩ := om_mb (t := u) (T := 31) (by omega) (by omega) c1.1 c1.2
    rw [Int.mul_comm u] at c4 c5
    refine ⟨⟨by omega, by omega⟩, ⟨by omega, by omega⟩, by omega, ⟨by omega, by omega⟩, md_mod ?_⟩
    simp only [x_Md_tell_42, x_Md_tell_43, x_Md_tell_46, aO_109, Option.toList_some, Option.toList_none, List.cons_append, List.nil_append, List.length_cons, List.length_nil, Nat.reduceAdd, Nat.zero_add, Nat.reduceLeDiff, true_and]
    refine ⟨by omega, ⟨by omega, by omega⟩, ih _ _ (by omega) (by omega) hb (by rw [om_u_ne (by decide)]; exact hI) (fun z => ?_) (fun I' f1 f2 => hq I' (fun b hb => by rw [f1 b hb, om_u_ne hb]) f2)⟩
    rw [om_u_eq]
    by_cases e : z = 25 * n + k
    · rw [e, om_p_eq, if_pos (by omega)]
      congr 3
      omega
    · rw [om_p_ne e, hk z]
      by_cases h : 25 * n ≤ z ∧ z < 25 * n + k
      · rw [if_pos h, if_pos (by omega)]
      · rw [if_neg h, if_neg (by omega)]
theorem md_tell_2 {sc : Int × (Int → Int)} {d : Nat} {s : Int} {q : Nat → Int} {Q : Option om_V → om_H → Prop} {pv u n : Int} (hn : q 12 = n) (hn0 : 0 ≤ n ∧ n < 13) (hu : 0 ≤ u ∧ u < 31) {im ar : Int → Int} (K : (Nat → Int → Int) → Prop) (hK : ∀ I', K I' → om_R sc (d + 1) 147 88 [.inr (.inl 101), .inl pv, .inl u, .inl 13] [] (om_O s q, I') Q) : ∀ (m : Nat) (k : Int) (I : Nat → Int → Int), k + m = 13 → 0 ≤ k → (∀ k, 0 ≤ k → k < 13 → 0 ≤ im k ∧ im k < 31) → I 113 = im → (∀ z, I 110 z = if 13 * n ≤ z ∧ z < 13 * n + k then (im (z - 13 * n) * u) % 31 else ar z) → (∀ I', (∀ b, b ≠ 110 → I' b = I b) → (∀ z, I' 110 z = if 13 * n ≤ z ∧ z < 13 * n + 13 then (im (z - 13 * n) * u) % 31 else ar z) → K I') → om_R sc (d + 1) 147 51 [.inr (.inl 101), .inl pv, .inl u, .inl k] [] (om_O s q, I) Q := by
  intro m
  induction m with
  | zero =>
    intro k I h1 h2 hb hI hk hq
    simp only [x_Md_tell_51, x_Md_tell_52, x_Md_tell_54]
    rw [if_pos (by omega)]
    have e : k = 13 := by omega
    subst e
    exact hK I (hq I (fun _ _ => rfl) hk)
  | succ m ih =>
    intro k I h1 h2 hb hI hk hq
    simp only [x_Md_tell_51, x_Md_tell_52, x_Md_tell_54]
    rw [if_neg (by omega)]
    simp only [x_Md_tell_57, x_Md_tell_58, x_Md_tell_61, x_Md_tell_63, x_Md_tell_64, x_Md_tell_67, x_Md_tell_68, x_Md_tell_69, x_Md_tell_70, x_Md_tell_71, x_Md_tell_74, x_Md_tell_75, x_Md_tell_76, x_Md_tell_77, x_Md_tell_78, gO_101_18, gO_101_14, gO_101_16, hn, hI, aO_113, aO_110, Option.toList_some, Option.toList_none, List.cons_append, List.nil_append, List.length_cons, List.length_nil, Nat.reduceAdd, Nat.zero_add, Nat.reduceLeDiff, true_and]
    have c1 := hb k h2 (by omega)
    obtain ⟨c4, c5⟩ := om_mb (t := u) (T := 31) (by omega) (by omega) c1.1 c1.2
    rw [Int.mul_comm u] at c4 c5
    refine ⟨⟨by omega, by omega⟩, ⟨by omega, by omega⟩, by omega, ⟨by omega, by omega⟩, md_mod ?_⟩
    simp only [x_Md_tell_81, x_Md_tell_82, x_Md_tell_85, aO_110, Option.toList_some, Option.toList_none, List.cons_append, List.nil_append, List.length_cons, List.length_nil, Nat.reduceAdd, Nat.zero_add, Nat.reduceLeDiff, true_and]
    refine ⟨by omega, ⟨by omega, by omega⟩, ih _ _ (by omega) (by omega) hb (by rw [om_u_ne (by decide)]; exact hI) (fun z => ?_) (fun I' f1 f2 => hq I' (fun b hb => by rw [f1 b hb, om_u_ne hb]) f2)⟩
    rw [om_u_eq]
    by_cases e : z = 13 * n + k
    · rw [e, om_p_eq, if_pos (by omega)]
      congr 3
      omega
    · rw [om_p_ne e, hk z]
      by_cases h : 13 * n ≤ z ∧ z < 13 * n + k
      · rw [if_pos h, if_pos (by omega)]
      · rw [if_neg h, if_neg (by omega)]
theorem md_reduce_l {sc : Int × (Int → Int)} {d : Nat} {s : Int} {q : Nat → Int} {Q : Option om_V → om_H → Prop} {n : Nat} (hn : q 12 = n) (hn13 : n ≤ 13) {IM SO PV : Int → Int} (P : Nat → (Int → Int) → (Int → Int) → Prop) (hP : ∀ r im so, P r im so → (∀ k, 0 ≤ k → k < 25 → 0 ≤ im k ∧ im k < 31) ∧ (∀ k, 0 ≤ k → k < 13 → 0 ≤ so k ∧ so k < 31)) (hpv : ∀ r : Int, 0 ≤ r → r < n → 0 ≤ PV r ∧ PV r < 25) (him : ∀ r k : Int, 0 ≤ r → r < n → 0 ≤ k → k < 25 → 0 ≤ IM (25 * r + k) ∧ IM (25 * r + k) < 31) (hso : ∀ r k : Int, 0 ≤ r → r < n → 0 ≤ k → k < 13 → 0 ≤ SO (13 * r + k) ∧ SO (13 * r + k) < 31) (hst : ∀ (r : Nat) im so im' so', r < n → P r im so → (∀ k, 0 ≤ k → k < 25 → im' k = (im k - im (PV r) * IM (25 * r + k)) % 31) → (∀ k, 0 ≤ k → k < 13 → so' k = (so k - im (PV r) * SO (13 * r + k)) % 31) → P (r + 1) im' so') : ∀ (m r : Nat) (x y : om_V) (I : Nat → Int → Int), r + m = n → I 109 = IM → I 110 = SO → I 111 = PV → P r (I 112) (I 113) → (∀ I', (∀ b, b ≠ 112 → b ≠ 113 → I' b = I b) → P n (I' 112) (I' 113) → Q none (om_O s q, I')) → om_R sc (d + 1) 145 2 [.inr (.inl 101), .inl (r : Int), x, y] [] (om_O s q, I) Q := by
  intro m
  induction m with
  | zero =>
    intro r x y I h1 h9 h10 h11 hp hq
    simp only [x_Md_reduce_2, x_Md_reduce_3, x_Md_reduce_4, x_Md_reduce_7, x_Md_reduce_114, gO_101_16, hn]
    rw [if_pos (by omega)]
    have e : r = n := by omega
    subst e
    exact hq I (fun _ _ _ => rfl) hp
  | succ m ih =>
    intro r x y I h1 h9 h10 h11 hp hq
    obtain ⟨b1, b2⟩ := hP r _ _ hp
    have b3 := hpv r (by omega) (by omega)
    have b4 := b1 _ b3.1 b3.2
    simp only [x_Md_reduce_2, x_Md_reduce_3, x_Md_reduce_4, x_Md_reduce_7, gO_101_16, hn]
    rw [if_neg (by omega)]
    simp only [x_Md_reduce_10, x_Md_reduce_11, x_Md_reduce_14, x_Md_reduce_15, x_Md_reduce_18, x_Md_reduce_19, x_Md_reduce_20, x_Md_reduce_21, x_Md_reduce_22, x_Md_reduce_23, gO_101_17, gO_101_15, aO_111, aO_112, h11, Option.toList_some, Option.toList_none, List.cons_append, List.nil_append, List.length_cons, List.length_nil, Nat.reduceAdd, Nat.zero_add, Nat.reduceLeDiff, true_and]
    refine ⟨by omega, by omega, ?_⟩
    refine md_red_1 (by omega) b4 (fun I1 => (∀ b, b ≠ 112 → I1 b = I b) ∧ ∀ k, 0 ≤ k → k < 25 → I1 112 k = (I 112 k - I 112 (PV r) * IM (25 * r + k)) % 31) (fun I1 ⟨g1, g2⟩ => ?_) 25 0 I (by omega) (by omega) (fun k a b => by rw [h9]; exact him r k (by omega) (by omega) a b) b1 (fun k' => by rw [if_neg (by omega)]) (fun I1 f1 f2 => ⟨f1, fun k a b => by rw [f2 k a b, h9]⟩)
    simp only [x_Md_reduce_65, x_Md_reduce_66, Option.toList_some, Option.toList_none, List.cons_append, List.nil_append, List.length_cons, List.length_nil, Nat.reduceAdd, Nat.zero_add, Nat.reduceLeDiff, true_and]
    refine md_red_2 (by omega) b4 (fun I2 => (∀ b, b ≠ 113 → I2 b = I1 b) ∧ ∀ k, 0 ≤ k → k < 13 → I2 113 k = (I 113 k - I 112 (PV r) * SO (13 * r + k)) % 31) (fun I2 ⟨g3, g4⟩ => ?_) 13 0 I1 (by omega) (by omega) (fun k a b => by rw [g1 110 (by decide), h10]; exact hso r k (by omega) (by omega) a b) b2 (fun k' => by rw [g1 113 (by decide), if_neg (by omega)]) (fun I2 f1 f2 => ⟨f1, fun k a b => by rw [f2 k a b, g1 110 (by decide), h10]⟩)
    simp only [x_Md_reduce_108, x_Md_reduce_111, Option.toList_some, Option.toList_none, List.cons_append, List.nil_append, List.length_cons, List.length_nil, Nat.reduceAdd, Nat.zero_add, Nat.reduceLeDiff, true_and]
    refine ⟨⟨by omega, by omega⟩, ?_⟩
    have e112 : I2 112 = I1 112 := g3 112 (by decide)
    have h := ih (r + 1) (.inl (I 112 (PV r))) (.inl 13) I2 (by omega) (by rw [g3 109 (by decide), g1 109 (by decide)]; exact h9) (by rw [g3 110 (by decide), g1 110 (by decide)]; exact h10) (by rw [g3 111 (by decide), g1 111 (by decide)]; exact h11) (hst r _ _ _ _ (by omega) hp (fun k a b => by rw [e112]; exact g2 k a b) g4) (fun I' f1 f2 => hq I' (fun b c1 c2 => by rw [f1 b c1 c2, g3 b c2, g1 b c1]) f2)
    simpa using h
/-- a reduction by the images told so far -/
theorem md_reduce {sc : Int × (Int → Int)} {d : Nat} {s : Int} {q : Nat → Int} {I : Nat → Int → Int} {Q : Option om_V → om_H → Prop} {M : Int → Int → Int} {Y : Int → Int} {j n : Nat} {jj : Int} (hn : q 12 = n) (hj : j ≤ 13) (hst : on_st M j n (fun r k => I 109 (25 * r + k)) (fun r k => I 110 (13 * r + k)) (I 111)) (hjj : jj = j ∨ jj < 0) (hj12 : jj < 13) (h0 : on_rp M Y (I 111) j jj 0 (I 112) (I 113)) (hq : ∀ I', (∀ b, b ≠ 112 → b ≠ 113 → I' b = I b) → on_rp M Y (I 111) j jj n (I' 112) (I' 113) → Q none (om_O s q, I')) : om_R sc (d + 1) 145 0 [.inr (.inl 101), om_un, om_un, om_un] [] (om_O s q, I) Q := by
  have hb := on_pc_b (p := on_ip M) j
  have hn1 := hst.1
  simp only [x_Md_reduce_0, x_Md_reduce_1]
  have h := md_reduce_l (sc := sc) (d := d) (s := s) (q := q) (Q := Q) hn (by omega) (on_rp M Y (I 111) j jj) (fun r im so hp => ⟨fun k a b => (hp.1 k a b).1, fun k a b => (hp.2.2.1 k a b).1⟩) (fun r a b => (hst.2.1 r a b).1) (fun r k a b c e => ((hst.2.1 r a b).2.1 k c e).1) (fun r k a b c e => ((hst.2.1 r a b).2.2.1 k c e).1) (fun r im so im' so' hr hp e1 e2 => on_rp_s hst hr hjj hj hp e1 e2 hj12) n 0 om_un om_un I (by omega) rfl rfl rfl h0 hq
  simpa using h
theorem md_firstOf_l {sc : Int × (Int → Int)} {d : Nat} {s : Int} {q : Nat → Int} {I : Nat → Int → Int} {Q : Option om_V → om_H → Prop} (h1 : ∀ k, 0 ≤ k → k < 25 → I 112 k ≠ 0 → Q (some (.inl k)) (om_O s q, I)) (h0 : (∀ k, 0 ≤ k → k < 25 → I 112 k = 0) → Q (some (.inl 25)) (om_O s q, I)) : ∀ (m : Nat) (k : Int), k + m = 25 → 0 ≤ k → (∀ k', 0 ≤ k' → k' < k → I 112 k' = 0) → om_R sc d 146 2 [.inr (.inl 101), .inl k] [] (om_O s q, I) Q := by
  intro m
  induction m with
  | zero =>
    intro k e1 e2 hz
    simp only [x_Md_firstOf_2, x_Md_firstOf_3, x_Md_firstOf_5, x_Md_firstOf_23, x_Md_firstOf_24]
    rw [if_pos (by omega)]
    have e : k = 25 := by omega
    subst e
    exact h0 hz
  | succ m ih =>
    intro k e1 e2 hz
    simp only [x_Md_firstOf_2, x_Md_firstOf_3, x_Md_firstOf_5, x_Md_firstOf_23, x_Md_firstOf_24]
    rw [if_neg (by omega)]
    simp only [x_Md_firstOf_8, x_Md_firstOf_9, x_Md_firstOf_12, x_Md_firstOf_13, x_Md_firstOf_14, x_Md_firstOf_17, x_Md_firstOf_20, x_Md_firstOf_23, x_Md_firstOf_24, gO_101_17, aO_112]
    refine ⟨by omega, ?_⟩
    by_cases hk : I 112 k = 0
    · rw [if_pos hk]
      refine ⟨⟨by omega, by omega⟩, ih _ (by omega) (by omega) (fun k' a b => ?_)⟩
      by_cases e : k' = k
      · rw [e]; exact hk
      · exact hz k' a (by omega)
    · rw [if_neg hk]
      exact h1 k e2 (by omega) hk
theorem md_firstOf {sc : Int × (Int → Int)} {d : Nat} {s : Int} {q : Nat → Int} {I : Nat → Int → Int} {Q : Option om_V → om_H → Prop} (h1 : ∀ k, 0 ≤ k → k < 25 → I 112 k ≠ 0 → Q (some (.inl k)) (om_O s q, I)) (h0 : (∀ k, 0 ≤ k → k < 25 → I 112 k = 0) → Q (some (.inl 25)) (om_O s q, I)) : om_R sc d 146 0 [.inr (.inl 101), om_un] [] (om_O s q, I) Q := by
  simp only [x_Md_firstOf_0, x_Md_firstOf_1]
  exact md_firstOf_l h1 h0 25 0 (by omega) (by omega) (fun k' a b => by omega)
theorem md_tell {sc : Int × (Int → Int)} {d : Nat} {s : Int} {q : Nat → Int} {I : Nat → Int → Int} {Q : Option om_V → om_H → Prop} {M : Int → Int → Int} {j n : Nat} {pv : Int} (hn : q 12 = n) (hj : j ≤ 12) (hst : on_st M j n (fun r k => I 109 (25 * r + k)) (fun r k => I 110 (13 * r + k)) (I 111)) (h : on_rp M (fun _ => 0) (I 111) j j n (I 112) (I 113)) (hp : 0 ≤ pv ∧ pv < 25) (hnz : I 112 pv ≠ 0) (hq : ∀ I', (∀ b, b ≠ 109 → b ≠ 110 → b ≠ 111 → I' b = I b) → on_st M (j + 1) (n + 1) (fun r k => I' 109 (25 * r + k)) (fun r k => I' 110 (13 * r + k)) (I' 111) → Q none (om_O s (om_qs q 12 ((n : Int) + 1)), I')) : om_R sc (d + 1) 147 0 [.inr (.inl 101), .inl pv, om_un, om_un] [] (om_O s q, I) Q := by
  have hb := on_pc_b (p := on_ip M) j
  have hn1 := hst.1
  have bp := (h.1 pv hp.1 hp.2).1
  obtain ⟨⟨u1, u2⟩, u3⟩ := om_inv_eq (I 112 pv) (by omega) (by omega)
  simp only [x_Md_tell_0, x_Md_tell_1, x_Md_tell_4, x_Md_tell_5, x_Md_tell_6, gO_101_17, aO_112, Option.toList_some, Option.toList_none, List.cons_append, List.nil_append, List.length_cons, List.length_nil, Nat.reduceAdd, Nat.zero_add, Nat.reduceLeDiff, true_and]
  refine ⟨by omega, md_inverse (by omega) ?_⟩
  simp only [x_Md_tell_9, x_Md_tell_10, x_Md_tell_11, Option.toList_some, Option.toList_none, List.cons_append, List.nil_append, List.length_cons, List.length_nil, Nat.reduceAdd, Nat.zero_add, Nat.reduceLeDiff, true_and]
  refine md_tell_1 hn (by omega) (by omega) (fun I1 => (∀ b, b ≠ 109 → I1 b = I b) ∧ ∀ z, I1 109 z = if 25 * (n : Int) ≤ z ∧ z < 25 * n + 25 then (I 112 (z - 25 * n) * om_pw (I 112 pv) 29) % 31 else I 109 z) (fun I1 ⟨g1, g2⟩ => ?_) 25 0 I (by omega) (by omega) (fun k a b => (h.1 k a b).1) rfl (fun z => by rw [if_neg (by omega)]) (fun I1 f1 f2 => ⟨f1, f2⟩)
  simp only [x_Md_tell_49, x_Md_tell_50, Option.toList_some, Option.toList_none, List.cons_append, List.nil_append, List.length_cons, List.length_nil, Nat.reduceAdd, Nat.zero_add, Nat.reduceLeDiff, true_and]
  refine md_tell_2 hn (by omega) (by omega) (fun I2 => (∀ b, b ≠ 110 → I2 b = I1 b) ∧ ∀ z, I2 110 z = if 13 * (n : Int) ≤ z ∧ z < 13 * n + 13 then (I 113 (z - 13 * n) * om_pw (I 112 pv) 29) % 31 else I 110 z) (fun I2 ⟨g3, g4⟩ => ?_) 13 0 I1 (by omega) (by omega) (fun k a b => (h.2.2.1 k a b).1) (by rw [g1 113 (by decide)]) (fun z => by rw [g1 110 (by decide), if_neg (by omega)]) (fun I2 f1 f2 => ⟨f1, f2⟩)
  simp only [x_Md_tell_88, x_Md_tell_89, x_Md_tell_92, x_Md_tell_93, x_Md_tell_96, x_Md_tell_97, x_Md_tell_98, x_Md_tell_99, x_Md_tell_100, x_Md_tell_103, x_Md_tell_104, x_Md_tell_105, x_Md_tell_108, gO_101_15, gO_101_16, hn, aO_111, pO_101_16 147 ((n : Int) + 1) rfl, Option.toList_some, Option.toList_none, List.cons_append, List.nil_append, List.length_cons, List.length_nil, Nat.reduceAdd, Nat.zero_add, Nat.reduceLeDiff, true_and]
  refine ⟨by omega, ⟨by omega, by omega⟩, hq _ (fun b b1 b2 b3 => by rw [om_u_ne b3, g3 b b2, g1 b b1]) ?_⟩
  have e109 : om_u I2 111 (om_p (I2 111) n pv) 109 = I1 109 := by rw [om_u_ne (by decide), g3 109 (by decide)]
  have e110 : om_u I2 111 (om_p (I2 111) n pv) 110 = I2 110 := by rw [om_u_ne (by decide)]
  have e111 : om_u I2 111 (om_p (I2 111) n pv) 111 = om_p (I 111) n pv := by rw [om_u_eq, g3 111 (by decide), g1 111 (by decide)]
  rw [e109, e110, e111]
  refine on_st_tell hj hst h hp hnz (fun r k a b c e => ?_) (fun r k a b c e => ?_) (fun r a b => om_p_ne (by omega)) (fun k a b => ?_) (fun k a b => ?_) om_p_eq
  · show I1 109 (25 * r + k) = I 109 (25 * r + k)
    rw [g2, if_neg (by omega)]
  · show I2 110 (13 * r + k) = I 110 (13 * r + k)
    rw [g4, if_neg (by omega)]
  · show I1 109 (25 * n + k) = _
    rw [g2, if_pos (by omega), show 25 * (n : Int) + k - 25 * n = k by omega]
  · show I2 110 (13 * n + k) = _
    rw [g4, if_pos (by omega), show 13 * (n : Int) + k - 13 * n = k by omega]
theorem md_note_l {sc : Int × (Int → Int)} {d : Nat} {s : Int} {q : Nat → Int} {Q : Option om_V → om_H → Prop} {i t : Int} (hi : 0 ≤ i ∧ i < 14) (ht : t = 1 ∨ t = -1) {so ar : Int → Int} : ∀ (m : Nat) (k : Int) (I : Nat → Int → Int), k + m = 13 → 0 ≤ k → (∀ k, 0 ≤ k → k < 13 → 0 ≤ so k ∧ so k < 31) → I 113 = so → (∀ z, I 108 z = if 13 * i ≤ z ∧ z < 13 * i + k then (t * so (z - 13 * i)) % 31 else ar z) → (∀ I', (∀ b, b ≠ 108 → I' b = I b) → (∀ z, I' 108 z = if 13 * i ≤ z ∧ z < 13 * i + 13 then (t * so (z - 13 * i)) % 31 else ar z) → Q none (om_O s q, I')) → om_R sc (d + 1) 148 2 [.inr (.inl 101), .inl i, .inl t, .inl k] [] (om_O s q, I) Q := by
  intro m
  induction m with
  | zero =>
    intro k I h1 h2 hb hI hk hq
    simp only [x_Md_note_2, x_Md_note_3, x_Md_note_5, x_Md_note_36]
    rw [if_pos (by omega)]
    have e : k = 13 := by omega
    subst e
    exact hq I (fun _ _ => rfl) hk
  | succ m ih =>
    intro k I h1 h2 hb hI hk hq
    simp only [x_Md_note_2, x_Md_note_3, x_Md_note_5]
    rw [if_neg (by omega)]
    simp only [x_Md_note_8, x_Md_note_9, x_Md_note_12, x_Md_note_14, x_Md_note_15, x_Md_note_16, x_Md_note_17, x_Md_note_18, x_Md_note_19, x_Md_note_20, x_Md_note_23, x_Md_note_24, x_Md_note_25, x_Md_note_26, gO_101_12, gO_101_18, hI, aO_108, aO_113, Option.toList_some, Option.toList_none, List.cons_append, List.nil_append, List.length_cons, List.length_nil, Nat.reduceAdd, Nat.zero_add, Nat.reduceLeDiff, true_and]
    have c1 := hb k h2 (by omega)
    refine ⟨⟨by omega, by omega⟩, ⟨by omega, by omega⟩, by omega, by rcases ht with h | h <;> rw [h] <;> omega, md_mod ?_⟩
    simp only [x_Md_note_29, x_Md_note_30, x_Md_note_33, aO_108, Option.toList_some, Option.toList_none, List.cons_append, List.nil_append, List.length_cons, List.length_nil, Nat.reduceAdd, Nat.zero_add, Nat.reduceLeDiff, true_and]
    refine ⟨by omega, ⟨by omega, by omega⟩, ih _ _ (by omega) (by omega) hb (by rw [om_u_ne (by decide)]; exact hI) (fun z => ?_) (fun I' f1 f2 => hq I' (fun b hb => by rw [f1 b hb, om_u_ne hb]) f2)⟩
    rw [om_u_eq]
    by_cases e : z = 13 * i + k
    · rw [e, om_p_eq, if_pos (by omega)]
      congr 3
      omega
    · rw [om_p_ne e, hk z]
      by_cases h : 13 * i ≤ z ∧ z < 13 * i + k
      · rw [if_pos h, if_pos (by omega)]
      · rw [if_neg h, if_neg (by omega)]
theorem md_note {sc : Int × (Int → Int)} {d : Nat} {s : Int} {q : Nat → Int} {I : Nat → Int → Int} {Q : Option om_V → om_H → Prop} {i t : Int} (hi : 0 ≤ i ∧ i < 14) (ht : t = 1 ∨ t = -1) (hb : ∀ k, 0 ≤ k → k < 13 → 0 ≤ I 113 k ∧ I 113 k < 31) (hq : ∀ I', (∀ b, b ≠ 108 → I' b = I b) → (∀ i' k', om_tb 14 13 (I' 108) i' k' = if i' = i ∧ 0 ≤ k' ∧ k' < 13 then (t * I 113 k') % 31 else om_tb 14 13 (I 108) i' k') → Q none (om_O s q, I')) : om_R sc (d + 1) 148 0 [.inr (.inl 101), .inl i, .inl t, om_un] [] (om_O s q, I) Q := by
  simp only [x_Md_note_0, x_Md_note_1]
  refine md_note_l hi ht 13 0 I (by omega) (by omega) hb rfl (fun z => by rw [if_neg (by omega)]) (fun I' f1 f2 => hq I' f1 (fun i' k' => ?_))
  by_cases hin : 0 ≤ i' ∧ i' < 14 ∧ 0 ≤ k' ∧ k' < 13
  · rw [om_tb_in hin.1 hin.2.1 hin.2.2.1 hin.2.2.2, om_tb_in hin.1 hin.2.1 hin.2.2.1 hin.2.2.2, f2]
    by_cases e : i' = i
    · rw [if_pos (by omega), if_pos (by omega), e]
      congr 3
      omega
    · rw [if_neg (by omega), if_neg (by omega)]
  · rw [om_tb_out hin, om_tb_out hin, if_neg (by omega)]
theorem md_show0_1 {sc : Int × (Int → Int)} {d : Nat} {s : Int} {q : Nat → Int} {Q : Option om_V → om_H → Prop} {j : Int} {F : Int → Int → Int} (K : (Nat → Int → Int) → Prop) (hK : ∀ I', K I' → om_R sc (d + 1) 144 47 [.inr (.inl 101), .inl j, .inl 25] [] (om_O s q, I') Q) : ∀ (m : Nat) (k : Int) (I : Nat → Int → Int), k + m = 25 → 0 ≤ k → om_mt I 2 = F → (∀ k', 0 ≤ k' → k' < k → I 112 k' = F 0 k') → (∀ I', (∀ b, b ≠ 112 → I' b = I b) → (∀ k', 0 ≤ k' → k' < 25 → I' 112 k' = F 0 k') → K I') → om_R sc (d + 1) 144 22 [.inr (.inl 101), .inl j, .inl k] [] (om_O s q, I) Q := by
  intro m
  induction m with
  | zero =>
    intro k I h1 h2 hF hk hq
    simp only [x_Md_show0_22, x_Md_show0_23, x_Md_show0_25]
    rw [if_pos (by omega)]
    have e : k = 25 := by omega
    subst e
    exact hK I (hq I (fun _ _ => rfl) hk)
  | succ m ih =>
    intro k I h1 h2 hF hk hq
    simp only [x_Md_show0_22, x_Md_show0_23, x_Md_show0_25]
    rw [if_neg (by omega)]
    simp only [x_Md_show0_28, x_Md_show0_29, x_Md_show0_32, x_Md_show0_33, x_Md_show0_34, x_Md_show0_35, x_Md_show0_36, x_Md_show0_37, gO_101_17, rO_101, Option.toList_some, Option.toList_none, List.cons_append, List.nil_append, List.length_cons, List.length_nil, Nat.reduceAdd, Nat.zero_add, Nat.reduceLeDiff, true_and]
    refine md_get (by decide) (by decide) (by omega) ?_
    rw [hF]
    simp only [x_Md_show0_40, x_Md_show0_41, x_Md_show0_44, aO_112, Option.toList_some, Option.toList_none, List.cons_append, List.nil_append, List.length_cons, List.length_nil, Nat.reduceAdd, Nat.zero_add, Nat.reduceLeDiff, true_and]
    refine ⟨by omega, ⟨by omega, by omega⟩, ih _ _ (by omega) (by omega) (by
      rw [← hF]
      funext a b
      unfold om_mt
      rw [om_u_ne (by decide)]) (fun k' a b => ?_) (fun I' f1 f2 => hq I' (fun b hb => by rw [f1 b hb, om_u_ne hb]) f2)⟩
    rw [om_u_eq]
    by_cases e : k' = k
    · rw [e, om_p_eq]
    · rw [om_p_ne e]
      exact hk k' a (by omega)
theorem md_show0_2 {sc : Int × (Int → Int)} {d : Nat} {s : Int} {q : Nat → Int} {Q : Option om_V → om_H → Prop} {j : Int} : ∀ (m : Nat) (k : Int) (I : Nat → Int → Int), k + m = 13 → 0 ≤ k → (∀ k', 0 ≤ k' → k' < k → I 113 k' = if k' = j then 1 else 0) → (∀ I', (∀ b, b ≠ 113 → I' b = I b) → (∀ k', 0 ≤ k' → k' < 13 → I' 113 k' = if k' = j then 1 else 0) → Q none (om_O s q, I')) → om_R sc (d + 1) 144 49 [.inr (.inl 101), .inl j, .inl k] [] (om_O s q, I) Q := by
  intro m
  induction m with
  | zero =>
    intro k I h1 h2 hk hq
    simp only [x_Md_show0_49, x_Md_show0_50, x_Md_show0_52, x_Md_show0_77]
    rw [if_pos (by omega)]
    have e : k = 13 := by omega
    subst e
    exact hq I (fun _ _ => rfl) hk
  | succ m ih =>
    intro k I h1 h2 hk hq
    simp only [x_Md_show0_49, x_Md_show0_50, x_Md_show0_52]
    rw [if_neg (by omega)]
    have next : ∀ v : Int, v = (if k = j then 1 else 0) → om_R sc (d + 1) 144 71 [.inr (.inl 101), .inl j, .inl k] [] (om_O s q, om_u I 113 (om_p (I 113) k v)) Q := by
      intro v hv
      simp only [x_Md_show0_71, x_Md_show0_74, Option.toList_some, Option.toList_none, List.cons_append, List.nil_append, List.length_cons, List.length_nil, Nat.reduceAdd, Nat.zero_add, Nat.reduceLeDiff, true_and]
      refine ⟨⟨by omega, by omega⟩, ih _ _ (by omega) (by omega) (fun k' a b => ?_) (fun I' f1 f2 => hq I' (fun b hb => by rw [f1 b hb, om_u_ne hb]) f2)⟩
      rw [om_u_eq]
      by_cases e : k' = k
      · rw [e, om_p_eq]
        exact hv
      · rw [om_p_ne e]
        exact hk k' a (by omega)
    simp only [x_Md_show0_55, x_Md_show0_56, x_Md_show0_59, x_Md_show0_60, x_Md_show0_61, x_Md_show0_62, x_Md_show0_65, x_Md_show0_66, x_Md_show0_69, x_Md_show0_70, gO_101_18, aO_113, Option.toList_some, Option.toList_none, List.cons_append, List.nil_append, List.length_cons, List.length_nil, Nat.reduceAdd, Nat.zero_add, Nat.reduceLeDiff, true_and]
    by_cases e : k = j
    · rw [if_pos e]
      exact ⟨by omega, next 1 (by rw [if_pos e])⟩
    · rw [if_neg e]
      exact ⟨by omega, next 0 (by rw [if_neg e])⟩
theorem md_show0 {sc : Int × (Int → Int)} {d : Nat} {s : Int} {q : Nat → Int} {I : Nat → Int → Int} {Q : Option om_V → om_H → Prop} {A : Int → Int → Int} {j : Int} (hj : 0 ≤ j ∧ j ≤ 12) (hA : om_mt I 0 = A) (suA : om_su 5 13 A) (rA : om_r31 A) (hq : ∀ I', (∀ b, b ≠ 103 → b ≠ 112 → b ≠ 113 → I' b = I b) → om_mt I' 0 = A → (∀ k, 0 ≤ k → k < 25 → I' 112 k = on_M s A k j) → (∀ k, 0 ≤ k → k < 13 → I' 113 k = if k = j then 1 else 0) → Q none (om_O s q, I')) : om_R sc (d + 5) 144 0 [.inr (.inl 101), .inl j, om_un] [] (om_O s q, I) Q := by
  simp only [x_Md_show0_0, x_Md_show0_1, x_Md_show0_2, rO_101, Option.toList_some, Option.toList_none, List.cons_append, List.nil_append, List.length_cons, List.length_nil, Nat.reduceAdd, Nat.zero_add, Nat.reduceLeDiff, true_and]
  refine md_wipe (by decide) (fun I1 f1 f2 => ?_)
  simp only [x_Md_show0_5, x_Md_show0_6, x_Md_show0_7, x_Md_show0_8, x_Md_show0_9, x_Md_show0_10, rO_101, Option.toList_some, Option.toList_none, List.cons_append, List.nil_append, List.length_cons, List.length_nil, Nat.reduceAdd, Nat.zero_add, Nat.reduceLeDiff, true_and]
  refine md_plus (by decide) (by decide) (by omega) (by decide) (by rw [f2]; exact (by decide : (0 : Int) ≤ 0 ∧ (0 : Int) < 31)) (fun I2 f3 f4 => ?_)
  have e1 : om_mt I2 1 = on_dl j := by
    funext a b
    rw [f4 a b, f2]
    unfold on_dl
    split <;> rfl
  have e0 : om_mt I2 0 = A := by rw [f3.2 0 (by decide), f1.2 0 (by decide)]; exact hA
  simp only [x_Md_show0_13, x_Md_show0_14, x_Md_show0_15, x_Md_show0_16, x_Md_show0_17, rO_101, Option.toList_some, Option.toList_none, List.cons_append, List.nil_append, List.length_cons, List.length_nil, Nat.reduceAdd, Nat.zero_add, Nat.reduceLeDiff, true_and]
  refine md_applyTables (by decide) (by decide) (by decide) (by decide) (by decide) (by decide) (by rw [e0]; exact suA) (by rw [e0]; exact rA) (by rw [e1]; exact on_dl_su (by omega)) (by rw [e1]; exact on_dl_r) (fun I3 f5 f6 => ?_)
  rw [e0, e1] at f6
  simp only [x_Md_show0_20, x_Md_show0_21, Option.toList_some, Option.toList_none, List.cons_append, List.nil_append, List.length_cons, List.length_nil, Nat.reduceAdd, Nat.zero_add, Nat.reduceLeDiff, true_and]
  refine md_show0_1 (d := d + 4) (fun I4 => (∀ b, b ≠ 112 → I4 b = I3 b) ∧ ∀ k', 0 ≤ k' → k' < 25 → I4 112 k' = om_img s A (on_dl j) 5 0 k') (fun I4 ⟨g1, g2⟩ => ?_) 25 0 I3 (by omega) (by omega) f6 (fun k' a b => by omega) (fun I4 f7 f8 => ⟨f7, f8⟩)
  simp only [x_Md_show0_47, x_Md_show0_48, Option.toList_some, Option.toList_none, List.cons_append, List.nil_append, List.length_cons, List.length_nil, Nat.reduceAdd, Nat.zero_add, Nat.reduceLeDiff, true_and]
  refine md_show0_2 (d := d + 4) 13 0 I4 (by omega) (by omega) (fun k' a b => by omega) (fun I5 f7 f8 => hq I5 (fun b b1 b2 b3 => by rw [f7 b b3, g1 b b2, f5.1 b b1, f3.1 b b1, f1.1 b b1]) ?_ (fun k a b => by rw [f7 112 (by decide)]; exact g2 k a b) f8)
  have : om_mt I5 0 = om_mt I3 0 := by
    funext a b
    unfold om_mt
    rw [f7 103 (by decide), g1 103 (by decide)]
  rw [this, f5.2 0 (by decide) (by decide)]
  exact e0
/-- what show0 begins with -/
theorem on_rp_0 {M : Int → Int → Int} {PV im so : Int → Int} {j : Nat} (hj : j ≤ 12) (rM : om_r31 M) (h1 : ∀ k, 0 ≤ k → k < 25 → im k = M k j) (h2 : ∀ k : Int, 0 ≤ k → k < 13 → so k = if k = j then 1 else 0) : on_rp M (fun _ => 0) PV j j 0 im so := by
  refine ⟨fun k k0 k1 => ⟨by rw [h1 k k0 k1]; exact rM k j, ?_⟩, fun r' a b => by omega, fun k k0 k1 => ⟨by rw [h2 k k0 k1]; split <;> omega, fun kn hk => ?_⟩, fun _ => by rw [h2 j (by omega) (by omega), if_pos rfl]⟩
  · have e : on_mv M so k = M k j := by
      unfold on_mv
      rw [on_sm_one (a := j) (fun k' a b c => by rw [h2 k' a (by omega), if_neg c, Int.mul_zero]) (by omega) (by omega), h2 j (by omega) (by omega), if_pos rfl, Int.mul_one]
    show (im k - 0 - on_mv M so k) % 31 = 0
    rw [e, h1 k k0 k1]
    omega
  · rw [h2 k k0 k1, if_neg kn] at hk
    exact absurd rfl hk
