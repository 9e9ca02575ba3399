/-! the reference's factor -/
def on_nx (s c e : Int) (F : Int → Int) (k : Int) : Int := if s = 0 then ((k + 1) * F (k + 1) + e * F k + c * F (k - 1)) % 31 else (e * om_ps 8 F 8 k + c * om_ps 8 F 8 (k - 1)) % 31
theorem on_nx_b {s c e : Int} {F : Int → Int} (k : Int) : 0 ≤ on_nx s c e F k ∧ on_nx s c e F k < 31 := by
  unfold on_nx
  split <;> omega
theorem on_ps_su {F : Int → Int} {i : Nat} (hi : i ≤ 4) (sF : ∀ k : Int, ¬ (0 ≤ k ∧ k ≤ i) → F k = 0) (k : Int) (hk : ¬ (0 ≤ k ∧ k ≤ i)) : om_ps 8 F 8 k = 0 := by
  have h : ∀ k, ¬ (0 ≤ k ∧ k < (i : Int) + 1) → F k = 0 := fun k hk => sF k (by omega)
  rw [om_ps_w (w := (i : Int) + 1) (w' := 8) h (by omega)]
  exact om_ps_o h 8 k (by omega)
theorem on_nx_su {s c e : Int} {F : Int → Int} {i : Nat} (hi : i ≤ 4) (sF : ∀ k : Int, ¬ (0 ≤ k ∧ k ≤ i) → F k = 0) (k : Int) (hk : ¬ (0 ≤ k ∧ k ≤ ((i + 1 : Nat) : Int))) : on_nx s c e F k = 0 := by
  unfold on_nx
  split
  · rw [sF k (by omega), sF (k - 1) (by omega)]
    by_cases e1 : k = -1
    · subst e1
      simp
    · rw [sF (k + 1) (by omega)]
      simp
  · rw [on_ps_su hi sF k (by omega), on_ps_su hi sF (k - 1) (by omega)]
    simp
def on_pt (s c e : Int) (i : Nat) (F : Int → Int) : Prop := (∀ k, 0 ≤ F k ∧ F k < 31) ∧ (∀ k : Int, ¬ (0 ≤ k ∧ k ≤ i) → F k = 0) ∧ (s = 0 → ∀ k, (F k - on_Ri c e i k) % 31 = 0) ∧ (s ≠ 0 → ∀ x, (on_hv F x 0 8 - on_n1 c e x i) % 31 = 0)
theorem on_pt_0 {s c e : Int} : on_pt s c e 0 (fun k => if k = 0 then 1 else 0) := by
  refine ⟨fun k => by dsimp only; split <;> omega, fun k hk => if_neg (by omega), fun _ k => ?_, fun _ x => ?_⟩
  · show ((if k = 0 then (1 : Int) else 0) - (if k = 0 then 1 else 0)) % 31 = 0
    omega
  · rw [show (8 : Nat) = 1 + 7 by rfl, on_hv_le 7 (fun k p q => if_neg (by omega))]
    show ((if (0 : Int) = 0 then 1 else 0) + x * 0 - 1) % 31 = 0
    simp
theorem on_pt_s {s c e : Int} {i : Nat} {F : Int → Int} (hi : i ≤ 4) (h : on_pt s c e i F) : on_pt s c e (i + 1) (on_nx s c e F) := by
  obtain ⟨h1, h2, h3, h4⟩ := h
  refine ⟨on_nx_b, on_nx_su hi h2, fun hs k => ?_, fun hs x => ?_⟩
  · have a1 := on_dmul (u := k + 1) (h3 hs (k + 1))
    have a2 := on_dmul (u := e) (h3 hs k)
    have a3 := on_dmul (u := c) (h3 hs (k - 1))
    unfold on_nx
    rw [if_pos hs]
    show (((k + 1) * F (k + 1) + e * F k + c * F (k - 1)) % 31 - ((k + 1) * on_Ri c e i (k + 1) + e * on_Ri c e i k + c * on_Ri c e i (k - 1))) % 31 = 0
    rw [Int.mul_comm (k + 1), Int.mul_comm e, Int.mul_comm c, Int.mul_comm (k + 1), Int.mul_comm e, Int.mul_comm c]
    omega
  · have a1 := on_hv_shift (f := F) (x := x) (w := 8)
    have a2 := h4 hs (x + 1)
    have e1 : (on_hv (on_nx s c e F) x 0 8 - on_hv (fun k => e * om_ps 8 F 8 k + c * om_ps 8 F 8 (k - 1)) x 0 8) % 31 = 0 := on_hv_cg 8 0 (fun k _ _ => by
      unfold on_nx
      rw [if_neg hs]
      omega)
    rw [on_hv_add (f := om_ps 8 F 8) (g := fun k => om_ps 8 F 8 (k - 1)), on_hv_low (on_ps_su hi h2 (-1) (by omega)) (fun k p => on_ps_su hi h2 k (by omega)) (by omega)] at e1
    rw [on_n1_s]
    have a1' : (on_hv (om_ps 8 F 8) x 0 8 - on_hv F (x + 1) 0 8) % 31 = 0 := a1
    generalize on_hv (om_ps 8 F 8) x 0 8 = u at a1' e1
    have a3 := on_dmul (u := c * x + e) (x := u) (y := on_n1 c e (x + 1) i) (by omega)
    have e2 : e * u + c * (x * u) = u * (c * x + e) := by grind
    rw [e2] at e1
    rw [Int.mul_comm (c * x + e)]
    omega
theorem on_pt_v {s c e : Int} {i : Nat} {F : Int → Int} (hi : i ≤ 4) (h : on_pt s c e i F) (x : Int) : (on_hv F x 0 8 - on_nw s c e x i) % 31 = 0 := by
  obtain ⟨h1, h2, h3, h4⟩ := h
  unfold on_nw
  split
  · rename_i hs
    rw [← on_Ri_hv i (by omega)]
    exact on_hv_cg 8 0 (fun k _ _ => h3 hs k)
  · rename_i hs
    exact h4 hs x
theorem md_nx_o {sc : Int × (Int → Int)} {d : Nat} {s : Int} {q : Nat → Int} {Q : Option om_V → om_H → Prop} {c e : Int} (hs : s = 0 ∨ s = 1) {F : Int → Int} (rF : ∀ k, 0 ≤ F k ∧ F k < 31) (K : (Nat → Int → Int) → Prop) (hK : ∀ I', K I' → om_R sc (d + 1) 152 43 [.inr (.inl 101), .inl c, .inl e, .inl 8, om_un] [] (om_O s q, I') Q) : ∀ (m : Nat) (k : Int) (I : Nat → Int → Int), k + m = 8 → 0 ≤ k → (∀ j : Int, 0 ≤ j → j < 9 → I 116 j = F j) → (∀ j : Int, 0 ≤ j → j < k → I 117 j = if s = 0 then (j + 1) * F (j + 1) else 0) → (∀ I', (∀ b, b ≠ 117 → I' b = I b) → (∀ j : Int, 0 ≤ j → j < 8 → I' 117 j = if s = 0 then (j + 1) * F (j + 1) else 0) → K I') → om_R sc (d + 1) 152 2 [.inr (.inl 101), .inl c, .inl e, .inl k, om_un] [] (om_O s q, I) Q := by
  have n10 : ¬ (1 : Int) = 0 := by decide
  intro m
  induction m with
  | zero =>
    intro k I h1 h2 hF hO hq
    simp only [x_Md_next_2, x_Md_next_3, x_Md_next_5]
    rw [if_pos (by omega)]
    have ek : k = 8 := by omega
    subst ek
    exact hK I (hq I (fun _ _ => rfl) hO)
  | succ m ih =>
    intro k I h1 h2 hF hO hq
    have go : ∀ v, v = (if s = 0 then (k + 1) * F (k + 1) else 0) → om_R sc (d + 1) 152 2 [.inr (.inl 101), .inl c, .inl e, .inl (k + 1), om_un] [] (om_O s q, om_u I 117 (om_p (I 117) k v)) Q := by
      intro v hv
      refine ih (k + 1) _ (by omega) (by omega) (fun j a b => by rw [om_u_ne (by decide)]; exact hF j a b) (fun j a b => ?_) (fun I' f1 f2 => hq I' (fun b hb => by rw [f1 b hb, om_u_ne hb]) f2)
      rw [om_u_eq]
      by_cases e1 : j = k
      · rw [e1, om_p_eq, hv]
      · rw [om_p_ne e1]
        exact hO j a (by omega)
    simp only [x_Md_next_2, x_Md_next_3, x_Md_next_5]
    rw [if_neg (by omega)]
    rcases hs with hs0 | hs1
    · subst hs0
      have b := rF (k + 1)
      have e1 := hF (k + 1) (by omega) (by omega)
      obtain ⟨b1, b2⟩ := on_mul_b (a := k + 1) (b := F (k + 1)) (X := 8) (Y := 30) (by omega) (by omega)
      simp only [x_Md_next_8, x_Md_next_9, x_Md_next_12, x_Md_next_13, x_Md_next_14, x_Md_next_17, x_Md_next_20, x_Md_next_21, x_Md_next_22, x_Md_next_23, x_Md_next_24, x_Md_next_27, x_Md_next_28, x_Md_next_29, x_Md_next_30, x_Md_next_31, x_Md_next_32, x_Md_next_36, x_Md_next_37, x_Md_next_40, gO_101_22, gO_101_0, gO_101_21, aO_116, aO_117, Option.toList_some, Option.toList_none, List.cons_append, List.nil_append, List.length_cons, List.length_nil, Nat.reduceAdd, Nat.zero_add, Nat.reduceLeDiff, true_and, if_true, if_neg n10, e1]
      refine ⟨⟨by omega, by omega⟩, ⟨by omega, by omega⟩, ⟨by omega, by omega⟩, ⟨by omega, by omega⟩, ?_⟩
      exact ⟨by omega, ⟨by omega, by omega⟩, go _ (by rw [if_pos rfl])⟩
    · subst hs1
      simp only [x_Md_next_8, x_Md_next_9, x_Md_next_12, x_Md_next_13, x_Md_next_14, x_Md_next_17, x_Md_next_35, x_Md_next_36, x_Md_next_37, x_Md_next_40, gO_101_22, gO_101_0, gO_101_21, aO_116, aO_117, Option.toList_some, Option.toList_none, List.cons_append, List.nil_append, List.length_cons, List.length_nil, Nat.reduceAdd, Nat.zero_add, Nat.reduceLeDiff, true_and, if_true, if_neg n10]
      exact ⟨by omega, ⟨by omega, by omega⟩, go _ (by rw [if_neg n10])⟩
theorem md_nx_k {sc : Int × (Int → Int)} {d : Nat} {s : Int} {q : Nat → Int} {Q : Option om_V → om_H → Prop} {c e fr : Int} (hfr : 0 ≤ fr ∧ fr < 7) {F : Int → Int} (rF : ∀ k, 0 ≤ F k ∧ F k < 31) (K : (Nat → Int → Int) → Prop) (hK : ∀ I', K I' → om_R sc (d + 1) 152 101 [.inr (.inl 101), .inl c, .inl e, .inl fr, .inl (fr - 1)] [] (om_O s q, I') Q) : ∀ (m : Nat) (k : Int) (I : Nat → Int → Int), k + 1 = fr + m → k ≤ 6 → (∀ j : Int, 0 ≤ j → j < 9 → I 116 j = if k < j ∧ j < 8 then om_sx F (8 - j).toNat j else F j) → (∀ I', (∀ b, b ≠ 116 → I' b = I b) → (∀ j : Int, 0 ≤ j → j < 9 → I' 116 j = om_pa 8 F fr j) → K I') → om_R sc (d + 1) 152 62 [.inr (.inl 101), .inl c, .inl e, .inl fr, .inl k] [] (om_O s q, I) Q := by
  intro m
  induction m with
  | zero =>
    intro k I h1 h2 hF hq
    simp only [x_Md_next_62, x_Md_next_64, x_Md_next_65]
    rw [if_pos (by omega)]
    have ek : k = fr - 1 := by omega
    subst ek
    refine hK I (hq I (fun _ _ => rfl) (fun j a b => ?_))
    rw [hF j a b]
    unfold om_pa
    by_cases hc : fr ≤ j ∧ j < 8
    · rw [if_pos hc, if_pos (by omega)]
    · rw [if_neg hc, if_neg (by omega)]
  | succ m ih =>
    intro k I h1 h2 hF hq
    simp only [x_Md_next_62, x_Md_next_64, x_Md_next_65]
    rw [if_neg (by omega)]
    have e1 : I 116 k = F k := by rw [hF k (by omega) (by omega), if_neg (by omega)]
    have e2 : I 116 (k + 1) = om_sx F (8 - (k + 1)).toNat (k + 1) := by rw [hF (k + 1) (by omega) (by omega), if_pos (by omega)]
    have b1 := rF k
    have b2 := om_sx_b F (8 - (k + 1)).toNat (k + 1)
    simp only [x_Md_next_68, x_Md_next_69, x_Md_next_72, x_Md_next_74, x_Md_next_75, x_Md_next_78, x_Md_next_80, x_Md_next_81, x_Md_next_82, x_Md_next_85, x_Md_next_87, x_Md_next_88, x_Md_next_89, x_Md_next_90, x_Md_next_91, gO_101_21, aO_116, e1, e2, Option.toList_some, Option.toList_none, List.cons_append, List.nil_append, List.length_cons, List.length_nil, Nat.reduceAdd, Nat.zero_add, Nat.reduceLeDiff, true_and]
    refine ⟨by omega, ⟨by omega, by omega⟩, by omega, ⟨by omega, by omega⟩, ?_⟩
    refine md_mod ?_
    simp only [x_Md_next_94, x_Md_next_95, x_Md_next_98, gO_101_21, aO_116, Option.toList_some, Option.toList_none, List.cons_append, List.nil_append, List.length_cons, List.length_nil, Nat.reduceAdd, Nat.zero_add, Nat.reduceLeDiff, true_and]
    refine ⟨by omega, ⟨by omega, by omega⟩, ih _ _ (by omega) (by omega) (fun j a b => ?_) (fun I' f1 f2 => hq I' (fun b hb => by rw [f1 b hb, om_u_ne hb]) f2)⟩
    rw [om_u_eq]
    by_cases ej : j = k
    · rw [ej, om_p_eq, if_pos (by omega), show (8 - k).toNat = (8 - (k + 1)).toNat + 1 by omega]
      rfl
    · rw [om_p_ne ej, hF j a b]
      by_cases hc : k < j ∧ j < 8
      · rw [if_pos hc, if_pos (by omega)]
      · rw [if_neg hc, if_neg (by omega)]
theorem md_nx_f {sc : Int × (Int → Int)} {d : Nat} {s : Int} {q : Nat → Int} {Q : Option om_V → om_H → Prop} {c e : Int} (hs : s = 1) {F : Int → Int} (rF : ∀ k, 0 ≤ F k ∧ F k < 31) (K : (Nat → Int → Int) → Prop) (hK : ∀ I' x, K I' → om_R sc (d + 1) 152 107 [.inr (.inl 101), .inl c, .inl e, .inl 7, x] [] (om_O s q, I') Q) : ∀ (m p : Nat) (x : om_V) (I : Nat → Int → Int), p + m = 7 → (∀ j : Int, 0 ≤ j → j < 9 → I 116 j = om_ps 8 F p j) → (∀ I', (∀ b, b ≠ 116 → I' b = I b) → (∀ j : Int, 0 ≤ j → j < 9 → I' 116 j = om_ps 8 F 7 j) → K I') → om_R sc (d + 1) 152 45 [.inr (.inl 101), .inl c, .inl e, .inl (p : Int), x] [] (om_O s q, I) Q := by
  have n10 : ¬ (1 : Int) = 0 := by decide
  subst hs
  intro m
  induction m with
  | zero =>
    intro p x I h1 hF hq
    simp only [x_Md_next_45, x_Md_next_46, x_Md_next_48]
    rw [if_pos (by omega)]
    have ep : p = 7 := by omega
    subst ep
    exact hK I x (hq I (fun _ _ => rfl) hF)
  | succ m ih =>
    intro p x I h1 hF hq
    simp only [x_Md_next_45, x_Md_next_46, x_Md_next_48]
    rw [if_neg (by omega)]
    simp only [x_Md_next_51, x_Md_next_52, x_Md_next_55, x_Md_next_58, x_Md_next_60, gO_101_0, if_neg n10, if_true]
    refine md_nx_k (fr := p) (by omega) (om_ps_b rF p) (fun I1 => (∀ b, b ≠ 116 → I1 b = I b) ∧ ∀ j : Int, 0 ≤ j → j < 9 → I1 116 j = om_ps 8 F (p + 1) j) (fun I1 ⟨f1, f2⟩ => ?_) (7 - p) 6 I (by omega) (by omega) (fun j a b => ?_) (fun I1 f1 f2 => ⟨f1, f2⟩)
    · simp only [x_Md_next_101, x_Md_next_104, Option.toList_some, Option.toList_none, List.cons_append, List.nil_append, List.length_cons, List.length_nil, Nat.reduceAdd, Nat.zero_add, Nat.reduceLeDiff, true_and]
      refine ⟨⟨by omega, by omega⟩, ?_⟩
      have h := ih (p + 1) (.inl ((p : Int) - 1)) I1 (by omega) f2 (fun I' f3 f4 => hq I' (fun b hb => by rw [f3 b hb, f1 b hb]) f4)
      simpa using h
    · rw [hF j a b]
      by_cases hc : 6 < j ∧ j < 8
      · rw [if_pos hc]
        have ej : j = 7 := by omega
        subst ej
        rw [show ((8 : Int) - 7).toNat = 1 by rfl]
        have := om_ps_b (w := 8) rF p 7
        simp only [om_sx]
        omega
      · rw [if_neg hc]
theorem md_nx_e {sc : Int × (Int → Int)} {d : Nat} {s : Int} {q : Nat → Int} {Q : Option om_V → om_H → Prop} {c e : Int} (hc : 0 ≤ c ∧ c < 31) (he : 0 ≤ e ∧ e < 31) {F O G : Int → Int} (rF : ∀ k, 0 ≤ F k ∧ F k < 31) (rO : ∀ k, 0 ≤ k → k < 8 → 0 ≤ O k ∧ O k ≤ 240) (hG : ∀ k, 0 ≤ k → k < 8 → G k = (O k + e * F k + c * F (k - 1)) % 31) (hz : F (-1) = 0) (h8 : F 8 = G 8) : ∀ (m : Nat) (k : Int) (x : om_V) (I : Nat → Int → Int), k + 1 = m → k < 8 → (∀ j : Int, 0 ≤ j → j < 8 → I 117 j = O j) → (∀ j : Int, 0 ≤ j → j < 9 → I 116 j = if k < j then G j else F j) → (∀ I', (∀ b, b ≠ 116 → I' b = I b) → (∀ j : Int, 0 ≤ j → j < 9 → I' 116 j = G j) → Q none (om_O s q, I')) → om_R sc (d + 1) 152 110 [.inr (.inl 101), .inl c, .inl e, .inl k, x] [] (om_O s q, I) Q := by
  intro m
  induction m with
  | zero =>
    intro k x I h1 h2 hO hF hq
    simp only [x_Md_next_110, x_Md_next_111, x_Md_next_167]
    rw [if_pos (by omega)]
    exact hq I (fun _ _ => rfl) (fun j a b => by rw [hF j a b, if_pos (by omega)])
  | succ m ih =>
    intro k x I h1 h2 hO hF hq
    have rest : om_R sc (d + 1) 152 130 [.inr (.inl 101), .inl c, .inl e, .inl k, x] [.inl (F (k - 1))] (om_O s q, I) Q := by
      have e1 : I 116 k = F k := by rw [hF k (by omega) (by omega), if_neg (by omega)]
      have e2 := hO k (by omega) (by omega)
      have b0 := rO k (by omega) (by omega)
      have c1 := rF k
      have c2 := rF (k - 1)
      obtain ⟨b1, b2⟩ := on_mul_b (a := e) (b := F k) (X := 30) (Y := 30) (by omega) (by omega)
      obtain ⟨b3, b4⟩ := on_mul_b (a := c) (b := F (k - 1)) (X := 30) (Y := 30) (by omega) (by omega)
      simp only [x_Md_next_130, x_Md_next_132, x_Md_next_133, x_Md_next_136, x_Md_next_137, x_Md_next_138, x_Md_next_141, x_Md_next_142, x_Md_next_143, x_Md_next_144, x_Md_next_145, x_Md_next_148, x_Md_next_149, x_Md_next_150, x_Md_next_151, x_Md_next_152, x_Md_next_153, x_Md_next_155, x_Md_next_156, x_Md_next_157, gO_101_21, gO_101_22, aO_116, aO_117, e1, e2, Option.toList_some, Option.toList_none, List.cons_append, List.nil_append, List.length_cons, List.length_nil, Nat.reduceAdd, Nat.zero_add, Nat.reduceLeDiff, true_and]
      refine ⟨by omega, by omega, ⟨by omega, by omega⟩, ⟨by omega, by omega⟩, ⟨by omega, by omega⟩, ⟨by omega, by omega⟩, ?_⟩
      refine md_mod ?_
      simp only [x_Md_next_160, x_Md_next_161, x_Md_next_164, gO_101_21, aO_116, Option.toList_some, Option.toList_none, List.cons_append, List.nil_append, List.length_cons, List.length_nil, Nat.reduceAdd, Nat.zero_add, Nat.reduceLeDiff, true_and]
      refine ⟨by omega, ⟨by omega, by omega⟩, ih _ _ _ (by omega) (by omega) (fun j a b => by rw [om_u_ne (by decide)]; exact hO j a b) (fun j a b => ?_) (fun I' f1 f2 => hq I' (fun b hb => by rw [f1 b hb, om_u_ne hb]) f2)⟩
      rw [om_u_eq]
      by_cases ej : j = k
      · rw [ej, om_p_eq, if_pos (by omega), hG k (by omega) (by omega)]
      · rw [om_p_ne ej, hF j a b]
        by_cases hc : k < j
        · rw [if_pos hc, if_pos (by omega)]
        · rw [if_neg hc, if_neg (by omega)]
    simp only [x_Md_next_110, x_Md_next_111]
    rw [if_neg (by omega)]
    simp only [x_Md_next_114, x_Md_next_115]
    by_cases hk : k ≤ 0
    · rw [if_pos hk]
      have e0 : k = 0 := by omega
      subst e0
      rw [show (0 : Int) - 1 = -1 by rfl, hz] at rest
      simp only [x_Md_next_129]
      exact rest
    · rw [if_neg hk]
      have e1 : I 116 (k - 1) = F (k - 1) := by rw [hF (k - 1) (by omega) (by omega), if_neg (by omega)]
      simp only [x_Md_next_118, x_Md_next_119, x_Md_next_122, x_Md_next_123, x_Md_next_124, x_Md_next_125, x_Md_next_126, gO_101_21, aO_116, e1, Option.toList_some, Option.toList_none, List.cons_append, List.nil_append, List.length_cons, List.length_nil, Nat.reduceAdd, Nat.zero_add, Nat.reduceLeDiff, true_and]
      exact ⟨⟨by omega, by omega⟩, by omega, rest⟩
theorem md_next {sc : Int × (Int → Int)} {d : Nat} {s : Int} {q : Nat → Int} {I : Nat → Int → Int} {Q : Option om_V → om_H → Prop} {c e : Int} {i : Nat} (hs : s = 0 ∨ s = 1) (hi : i ≤ 4) (hc : 0 ≤ c ∧ c < 31) (he : 0 ≤ e ∧ e < 31) {F : Int → Int} (rF : ∀ k, 0 ≤ F k ∧ F k < 31) (sF : ∀ k : Int, ¬ (0 ≤ k ∧ k ≤ i) → F k = 0) (hF : ∀ j : Int, 0 ≤ j → j < 9 → I 116 j = F j) (hq : ∀ I', (∀ b, b ≠ 116 → b ≠ 117 → I' b = I b) → (∀ j : Int, 0 ≤ j → j < 9 → I' 116 j = on_nx s c e F j) → Q none (om_O s q, I')) : om_R sc (d + 1) 152 0 [.inr (.inl 101), .inl c, .inl e, om_un, om_un] [] (om_O s q, I) Q := by
  have n10 : ¬ (1 : Int) = 0 := by decide
  simp only [x_Md_next_0, x_Md_next_1]
  refine md_nx_o hs rF (fun I1 => (∀ b, b ≠ 117 → I1 b = I b) ∧ ∀ j : Int, 0 ≤ j → j < 8 → I1 117 j = if s = 0 then (j + 1) * F (j + 1) else 0) (fun I1 ⟨f1, f2⟩ => ?_) 8 0 I (by omega) (by omega) hF (fun j a b => by omega) (fun I' f1 f2 => ⟨f1, f2⟩)
  have h8 : on_nx s c e F 8 = 0 := on_nx_su hi sF 8 (by omega)
  rcases hs with hs0 | hs1
  · subst hs0
    simp only [x_Md_next_43, x_Md_next_44, x_Md_next_45, x_Md_next_46, x_Md_next_48, x_Md_next_51, x_Md_next_52, x_Md_next_55, x_Md_next_107, x_Md_next_109, gO_101_0, if_true, if_neg n10, show ¬ (7 : Int) ≤ 0 by decide, if_false]
    refine md_nx_e hc he rF (O := fun j => (j + 1) * F (j + 1)) (G := on_nx 0 c e F) (fun k k0 k1 => ?_) (fun k k0 k1 => if_pos rfl) (sF _ (by omega)) (by rw [h8]; exact sF 8 (by omega)) 8 7 _ I1 (by omega) (by omega) (fun j a b => by rw [f2 j a b, if_pos rfl]) (fun j a b => ?_) (fun I' f3 f4 => hq I' (fun b b1 b2 => by rw [f3 b b1, f1 b b2]) f4)
    · have := rF (k + 1)
      exact on_mul_b (a := k + 1) (b := F (k + 1)) (X := 8) (Y := 30) (by omega) (by omega)
    · rw [f1 116 (by decide), hF j a b]
      by_cases ej : 7 < j
      · rw [if_pos ej, show j = 8 by omega, h8]
        exact sF 8 (by omega)
      · rw [if_neg ej]
  · subst hs1
    simp only [x_Md_next_43, x_Md_next_44]
    have h := md_nx_f (sc := sc) (d := d) (q := q) (Q := Q) (c := c) (e := e) rfl rF (fun I2 => (∀ b, b ≠ 116 → I2 b = I1 b) ∧ ∀ j : Int, 0 ≤ j → j < 9 → I2 116 j = om_ps 8 F 7 j) (fun I2 x ⟨f3, f4⟩ => ?_) 7 0 om_un I1 rfl (fun j a b => by rw [f1 116 (by decide)]; exact hF j a b) (fun I2 f3 f4 => ⟨f3, f4⟩)
    · simpa using h
    · simp only [x_Md_next_107, x_Md_next_109]
      have e7 : ∀ j : Int, 0 ≤ j → j < 9 → I2 116 j = om_ps 8 F 8 j := by
        intro j a b
        rw [f4 j a b]
        show _ = om_pa 8 (om_ps 8 F 7) ((7 : Nat) : Int) j
        unfold om_pa
        by_cases hc : ((7 : Nat) : Int) ≤ j ∧ j < 8
        · rw [if_pos hc]
          have ej : j = 7 := by omega
          subst ej
          rw [show ((8 : Int) - 7).toNat = 1 by rfl]
          have := om_ps_b (w := 8) rF 7 7
          simp only [om_sx]
          omega
        · rw [if_neg hc]
      refine md_nx_e hc he (om_ps_b rF 8) (O := fun j => 0) (G := on_nx 1 c e F) (fun k k0 k1 => ⟨Int.le_refl _, (by decide : (0 : Int) ≤ 240)⟩) (fun k k0 k1 => ?_) (on_ps_su hi sF _ (by omega)) (by rw [h8]; exact on_ps_su hi sF 8 (by omega)) 8 7 x I2 (by omega) (by omega) (fun j a b => by rw [f3 117 (by decide), f2 j a b, if_neg n10]) (fun j a b => ?_) (fun I' f5 f6 => hq I' (fun b b1 b2 => by rw [f5 b b1, f3 b b1, f1 b b2]) f6)
      · unfold on_nx
        rw [if_neg n10, Int.zero_add]
      · rw [e7 j a b]
        by_cases ej : 7 < j
        · rw [if_pos ej, show j = 8 by omega, h8]
          exact on_ps_su hi sF 8 (by omega)
        · rw [if_neg ej]
theorem md_if_0 {sc : Int × (Int → Int)} {d : Nat} {s : Int} {q : Nat → Int} {Q : Option om_V → om_H → Prop} {c e : Int} {y4 y5 y6 : om_V} (K : (Nat → Int → Int) → Prop) (hK : ∀ I', K I' → om_R sc (d + 2) 151 21 [.inr (.inl 101), .inl c, .inl e, .inl 24, y4, y5, y6] [] (om_O s q, I') Q) : ∀ (m : Nat) (k : Int) (I : Nat → Int → Int), k + m = 24 → 0 ≤ k → (∀ j : Int, 0 ≤ j → j < k → I 115 j = 0) → (∀ I', (∀ b, b ≠ 115 → I' b = I b) → (∀ j : Int, 0 ≤ j → j < 24 → I' 115 j = 0) → K I') → om_R sc (d + 2) 151 2 [.inr (.inl 101), .inl c, .inl e, .inl k, y4, y5, y6] [] (om_O s q, I) Q := by
  intro m
  induction m with
  | zero =>
    intro k I h1 h2 hL hq
    simp only [x_Md_isFactor_2, x_Md_isFactor_3, x_Md_isFactor_5]
    rw [if_pos (by omega)]
    have ek : k = 24 := by omega
    subst ek
    exact hK I (hq I (fun _ _ => rfl) hL)
  | succ m ih =>
    intro k I h1 h2 hL hq
    simp only [x_Md_isFactor_2, x_Md_isFactor_3, x_Md_isFactor_5]
    rw [if_neg (by omega)]
    simp only [x_Md_isFactor_8, x_Md_isFactor_9, x_Md_isFactor_12, x_Md_isFactor_13, x_Md_isFactor_14, x_Md_isFactor_15, x_Md_isFactor_18, gO_101_20, aO_115, Option.toList_some, Option.toList_none, List.cons_append, List.nil_append, List.length_cons, List.length_nil, Nat.reduceAdd, Nat.zero_add, Nat.reduceLeDiff, true_and]
    refine ⟨by omega, ⟨by omega, by omega⟩, ih _ _ (by omega) (by omega) (fun j a b => ?_) (fun I' f1 f2 => hq I' (fun b hb => by rw [f1 b hb, om_u_ne hb]) f2)⟩
    rw [om_u_eq]
    by_cases ej : j = k
    · rw [ej, om_p_eq]
    · rw [om_p_ne ej]
      exact hL j a (by omega)
theorem md_if_1 {sc : Int × (Int → Int)} {d : Nat} {s : Int} {q : Nat → Int} {Q : Option om_V → om_H → Prop} {c e : Int} {y4 y5 y6 : om_V} (K : (Nat → Int → Int) → Prop) (hK : ∀ I', K I' → om_R sc (d + 2) 151 50 [.inr (.inl 101), .inl c, .inl e, .inl 9, y4, y5, y6] [] (om_O s q, I') Q) : ∀ (m : Nat) (k : Int) (I : Nat → Int → Int), k + m = 9 → 0 ≤ k → (∀ j : Int, 0 ≤ j → j < k → I 116 j = if j = 0 then 1 else 0) → (∀ I', (∀ b, b ≠ 116 → I' b = I b) → (∀ j : Int, 0 ≤ j → j < 9 → I' 116 j = if j = 0 then 1 else 0) → K I') → om_R sc (d + 2) 151 23 [.inr (.inl 101), .inl c, .inl e, .inl k, y4, y5, y6] [] (om_O s q, I) Q := by
  intro m
  induction m with
  | zero =>
    intro k I h1 h2 hL hq
    simp only [x_Md_isFactor_23, x_Md_isFactor_24, x_Md_isFactor_26]
    rw [if_pos (by omega)]
    have ek : k = 9 := by omega
    subst ek
    exact hK I (hq I (fun _ _ => rfl) hL)
  | succ m ih =>
    intro k I h1 h2 hL hq
    have go : ∀ v, v = (if k = 0 then (1 : Int) else 0) → om_R sc (d + 2) 151 23 [.inr (.inl 101), .inl c, .inl e, .inl (k + 1), y4, y5, y6] [] (om_O s q, om_u I 116 (om_p (I 116) k v)) Q := by
      intro v hv
      refine ih _ _ (by omega) (by omega) (fun j a b => ?_) (fun I' f1 f2 => hq I' (fun b hb => by rw [f1 b hb, om_u_ne hb]) f2)
      rw [om_u_eq]
      by_cases ej : j = k
      · rw [ej, om_p_eq, hv]
      · rw [om_p_ne ej]
        exact hL j a (by omega)
    simp only [x_Md_isFactor_23, x_Md_isFactor_24, x_Md_isFactor_26]
    rw [if_neg (by omega)]
    simp only [x_Md_isFactor_29, x_Md_isFactor_30, x_Md_isFactor_33, x_Md_isFactor_34, x_Md_isFactor_35, gO_101_21, Option.toList_some, Option.toList_none, List.cons_append, List.nil_append, List.length_cons, List.length_nil, Nat.reduceAdd, Nat.zero_add, Nat.reduceLeDiff, true_and]
    by_cases e0 : k = 0
    · rw [if_pos e0]
      simp only [x_Md_isFactor_38, x_Md_isFactor_39, x_Md_isFactor_43, x_Md_isFactor_44, x_Md_isFactor_47, aO_116, Option.toList_some, Option.toList_none, List.cons_append, List.nil_append, List.length_cons, List.length_nil, Nat.reduceAdd, Nat.zero_add, Nat.reduceLeDiff, true_and]
      exact ⟨by omega, ⟨by omega, by omega⟩, go 1 (by rw [if_pos e0])⟩
    · rw [if_neg e0]
      simp only [x_Md_isFactor_42, x_Md_isFactor_43, x_Md_isFactor_44, x_Md_isFactor_47, aO_116, Option.toList_some, Option.toList_none, List.cons_append, List.nil_append, List.length_cons, List.length_nil, Nat.reduceAdd, Nat.zero_add, Nat.reduceLeDiff, true_and]
      exact ⟨by omega, ⟨by omega, by omega⟩, go 0 (by rw [if_neg e0])⟩
def on_lf (I : Nat → Int → Int) (T : Int → Int) : Prop := (∀ k : Int, 0 ≤ k → k < 24 → 0 ≤ I 115 k ∧ I 115 k < 31) ∧ (∀ k : Int, 17 ≤ k → k < 24 → I 115 k = 0) ∧ ∀ x, (on_hv (I 115) x 0 24 - T x) % 31 = 0
theorem md_if_b {sc : Int × (Int → Int)} {d : Nat} {s : Int} {q : Nat → Int} {Q : Option om_V → om_H → Prop} {c e i f : Int} {a : Nat} (ha : a ≤ 12) (hf : 0 ≤ f ∧ f < 31) {F : Int → Int} (rF : ∀ k, 0 ≤ F k ∧ F k < 31) (sF : ∀ k : Int, ¬ (0 ≤ k ∧ k ≤ 4) → F k = 0) {T : Int → Int} (K : (Nat → Int → Int) → Prop) (hK : ∀ I' y, K I' → om_R sc (d + 2) 151 132 [.inr (.inl 101), .inl c, .inl e, .inl i, .inl a, .inl f, y] [] (om_O s q, I') Q) : ∀ (m b : Nat) (I : Nat → Int → Int), b + m = 8 → (∀ j : Int, 0 ≤ j → j < 9 → I 116 j = F j) → on_lf I (fun x => T x + f * x ^ a * on_hv F x 0 b) → (∀ I', (∀ b, b ≠ 115 → I' b = I b) → on_lf I' (fun x => T x + f * x ^ a * on_hv F x 0 8) → K I') → om_R sc (d + 2) 151 80 [.inr (.inl 101), .inl c, .inl e, .inl i, .inl a, .inl f, .inl b] [] (om_O s q, I) Q := by
  intro m
  induction m with
  | zero =>
    intro b I h1 hF hL hq
    simp only [x_Md_isFactor_80, x_Md_isFactor_82, x_Md_isFactor_84]
    rw [if_pos (by omega)]
    have ek : b = 8 := by omega
    subst ek
    exact hK I _ (hq I (fun _ _ => rfl) hL)
  | succ m ih =>
    intro b I h1 hF hL hq
    simp only [x_Md_isFactor_80, x_Md_isFactor_82, x_Md_isFactor_84, x_Md_isFactor_87, x_Md_isFactor_89]
    rw [if_neg (by omega)]
    by_cases f0 : f = 0
    · rw [if_pos f0]
      refine hK I _ (hq I (fun _ _ => rfl) ?_)
      subst f0
      refine ⟨hL.1, hL.2.1, fun x => ?_⟩
      have := hL.2.2 x
      have e1 : T x + 0 * x ^ a * on_hv F x 0 b = T x := by simp
      have e2 : T x + 0 * x ^ a * on_hv F x 0 8 = T x := by simp
      dsimp only at this ⊢
      rw [e1] at this
      rw [e2]
      exact this
    · rw [if_neg f0]
      have e1 := hF b (by omega) (by omega)
      have b1 := rF b
      have b2 := hL.1 (a + b) (by omega) (by omega)
      obtain ⟨b3, b4⟩ := on_mul_b (a := f) (b := F b) (X := 30) (Y := 30) (by omega) (by omega)
      simp only [x_Md_isFactor_92, x_Md_isFactor_93, x_Md_isFactor_96, x_Md_isFactor_98, x_Md_isFactor_100, x_Md_isFactor_101, x_Md_isFactor_102, x_Md_isFactor_105, x_Md_isFactor_107, x_Md_isFactor_109, x_Md_isFactor_110, x_Md_isFactor_111, x_Md_isFactor_113, x_Md_isFactor_114, x_Md_isFactor_117, x_Md_isFactor_119, x_Md_isFactor_120, x_Md_isFactor_121, x_Md_isFactor_122, gO_101_20, gO_101_21, aO_115, aO_116, e1, Option.toList_some, Option.toList_none, List.cons_append, List.nil_append, List.length_cons, List.length_nil, Nat.reduceAdd, Nat.zero_add, Nat.reduceLeDiff, true_and]
      refine ⟨⟨by omega, by omega⟩, ⟨by omega, by omega⟩, by omega, by omega, ⟨by omega, by omega⟩, ⟨by omega, by omega⟩, ?_⟩
      refine md_mod ?_
      simp only [x_Md_isFactor_125, x_Md_isFactor_126, x_Md_isFactor_129, gO_101_20, aO_115, Option.toList_some, Option.toList_none, List.cons_append, List.nil_append, List.length_cons, List.length_nil, Nat.reduceAdd, Nat.zero_add, Nat.reduceLeDiff, true_and]
      refine ⟨by omega, ⟨by omega, by omega⟩, ?_⟩
      have h := ih (b + 1) (om_u I 115 (om_p (I 115) ((a : Int) + b) ((I 115 (a + b) + f * F b) % 31))) (by omega) (fun j p p' => by rw [om_u_ne (by decide)]; exact hF j p p') ?_ (fun I' f1 f2 => hq I' (fun b hb => by rw [f1 b hb, om_u_ne hb]) f2)
      · simpa using h
      · refine ⟨fun k k0 k1 => ?_, fun k k0 k1 => ?_, fun x => ?_⟩
        · rw [om_u_eq]
          by_cases ek : k = (a : Int) + b
          · rw [ek, om_p_eq]; omega
          · rw [om_p_ne ek]; exact hL.1 k k0 k1
        · rw [om_u_eq]
          by_cases ek : k = (a : Int) + b
          · have z1 := hL.2.1 k k0 k1
            have z2 := sF b (by omega)
            rw [ek] at z1
            rw [ek, om_p_eq, z1, z2]
            simp
          · rw [om_p_ne ek]; exact hL.2.1 k k0 k1
        · rw [om_u_eq]
          have h3 := hL.2.2 x
          have h4 := on_hv_p (f := I 115) (x := x) (v := (I 115 (a + b) + f * F b) % 31) (z := a + b) 24 (by omega)
          rw [show ((a + b : Nat) : Int) = (a : Int) + b by omega] at h4
          rw [h4]
          have h5 := on_dmul (u := x ^ (a + b)) (x := (I 115 (a + b) + f * F b) % 31 - I 115 (a + b)) (y := f * F b) (by omega)
          have h6 : T x + f * x ^ a * (on_hv F x 0 b + F b * x ^ b) = T x + f * x ^ a * on_hv F x 0 b + f * F b * x ^ (a + b) := by
            rw [Int.pow_add]
            grind
          dsimp only at h3 ⊢
          rw [on_hv_ap (f := F) b 0, Int.zero_add, h6]
          omega
theorem md_if_a {sc : Int × (Int → Int)} {d : Nat} {s : Int} {q : Nat → Int} {Q : Option om_V → om_H → Prop} {c e i : Int} (hi : 0 ≤ i ∧ i < 5) {F : Int → Int} (rF : ∀ k, 0 ≤ F k ∧ F k < 31) (sF : ∀ k : Int, ¬ (0 ≤ k ∧ k ≤ 4) → F k = 0) {T : Int → Int} {A : Int → Int → Int} (rA : om_r31 A) (K : (Nat → Int → Int) → Prop) (hK : ∀ I' y z, K I' → om_R sc (d + 2) 151 138 [.inr (.inl 101), .inl c, .inl e, .inl i, .inl 13, y, z] [] (om_O s q, I') Q) : ∀ (m a : Nat) (y z : om_V) (I : Nat → Int → Int), a + m = 13 → om_mt I 0 = A → (∀ j : Int, 0 ≤ j → j < 9 → I 116 j = F j) → on_lf I (fun x => T x + on_hv (A i) x 0 a * on_hv F x 0 8) → (∀ I', (∀ b, b ≠ 115 → I' b = I b) → on_lf I' (fun x => T x + on_hv (A i) x 0 13 * on_hv F x 0 8) → K I') → om_R sc (d + 2) 151 60 [.inr (.inl 101), .inl c, .inl e, .inl i, .inl a, y, z] [] (om_O s q, I) Q := by
  intro m
  induction m with
  | zero =>
    intro a y z I h1 hA hF hL hq
    simp only [x_Md_isFactor_60, x_Md_isFactor_62, x_Md_isFactor_64]
    rw [if_pos (by omega)]
    have ek : a = 13 := by omega
    subst ek
    exact hK I y z (hq I (fun _ _ => rfl) hL)
  | succ m ih =>
    intro a y z I h1 hA hF hL hq
    simp only [x_Md_isFactor_60, x_Md_isFactor_62, x_Md_isFactor_64]
    rw [if_neg (by omega)]
    simp only [x_Md_isFactor_67, x_Md_isFactor_68, x_Md_isFactor_69, x_Md_isFactor_70, x_Md_isFactor_72, rO_101, Option.toList_some, Option.toList_none, List.cons_append, List.nil_append, List.length_cons, List.length_nil, Nat.reduceAdd, Nat.zero_add, Nat.reduceLeDiff, true_and]
    refine md_get (by decide) (by omega) (by omega) ?_
    rw [hA]
    simp only [x_Md_isFactor_75, x_Md_isFactor_77, x_Md_isFactor_78, Option.toList_some, Option.toList_none, List.cons_append, List.nil_append, List.length_cons, List.length_nil, Nat.reduceAdd, Nat.zero_add, Nat.reduceLeDiff, true_and]
    have h := md_if_b (sc := sc) (d := d) (s := s) (q := q) (Q := Q) (c := c) (e := e) (i := i) (f := A i a) (a := a) (T := fun x => T x + on_hv (A i) x 0 a * on_hv F x 0 8) (by omega) (rA i a) rF sF (fun I1 => (∀ b, b ≠ 115 → I1 b = I b) ∧ on_lf I1 (fun x => T x + on_hv (A i) x 0 (a + 1) * on_hv F x 0 8)) (fun I1 w ⟨f1, f2⟩ => ?_) 8 0 I rfl hF ⟨hL.1, hL.2.1, fun x => ?_⟩ (fun I1 f1 f2 => ⟨f1, f2.1, f2.2.1, fun x => ?_⟩)
    · simpa using h
    · simp only [x_Md_isFactor_132, x_Md_isFactor_135, Option.toList_some, Option.toList_none, List.cons_append, List.nil_append, List.length_cons, List.length_nil, Nat.reduceAdd, Nat.zero_add, Nat.reduceLeDiff, true_and]
      refine ⟨⟨by omega, by omega⟩, ?_⟩
      have em : om_mt I1 0 = A := by
        rw [← hA]
        funext i k
        unfold om_mt
        rw [f1 103 (by decide)]
      have h := ih (a + 1) (.inl (A i a)) w I1 (by omega) em (fun j p p' => by rw [f1 116 (by decide)]; exact hF j p p') f2 (fun I' f3 f4 => hq I' (fun b hb => by rw [f3 b hb, f1 b hb]) f4)
      simpa using h
    · have := hL.2.2 x
      have e0 : on_hv F x 0 0 = 0 := rfl
      dsimp only
      rw [e0, Int.mul_zero, Int.add_zero]
      exact this
    · have := f2.2.2 x
      have e1 : T x + on_hv (A i) x 0 (a + 1) * on_hv F x 0 8 = T x + on_hv (A i) x 0 a * on_hv F x 0 8 + A i a * x ^ a * on_hv F x 0 8 := by
        rw [on_hv_ap, Int.zero_add]
        grind
      dsimp only
      rw [e1]
      exact this
theorem md_if_e {sc : Int × (Int → Int)} {d : Nat} {s : Int} {q : Nat → Int} {I : Nat → Int → Int} {Q : Option om_V → om_H → Prop} {A : Int → Int → Int} {c e : Int} {y4 y5 y6 : om_V} (hL : on_lf I (on_rs s A c e)) (h1 : on_fac s A c e → Q (some (.inl 1)) (om_O s q, I)) (h0 : ¬ on_fac s A c e → Q (some (.inl 0)) (om_O s q, I)) : ∀ (m : Nat) (k : Int), k + m = 24 → 0 ≤ k → (∀ j : Int, 0 ≤ j → j < k → I 115 j = 0) → om_R sc (d + 2) 151 152 [.inr (.inl 101), .inl c, .inl e, .inl k, y4, y5, y6] [] (om_O s q, I) Q := by
  intro m
  induction m with
  | zero =>
    intro k g1 g2 hz
    simp only [x_Md_isFactor_152, x_Md_isFactor_153, x_Md_isFactor_155, x_Md_isFactor_173, x_Md_isFactor_174, x_Md_isFactor_176, x_Md_isFactor_179, x_Md_isFactor_180, x_Md_isFactor_184]
    rw [if_pos (by omega), if_pos (by omega)]
    refine ⟨by decide, h1 (fun x x0 x1 => ?_)⟩
    have := hL.2.2 x
    rw [on_hv_z 24 0 (fun k p q => hz k p (by omega))] at this
    omega
  | succ m ih =>
    intro k g1 g2 hz
    simp only [x_Md_isFactor_152, x_Md_isFactor_153, x_Md_isFactor_155]
    rw [if_neg (by omega)]
    simp only [x_Md_isFactor_158, x_Md_isFactor_159, x_Md_isFactor_162, x_Md_isFactor_163, x_Md_isFactor_164, gO_101_20, aO_115, Option.toList_some, Option.toList_none, List.cons_append, List.nil_append, List.length_cons, List.length_nil, Nat.reduceAdd, Nat.zero_add, Nat.reduceLeDiff, true_and]
    refine ⟨by omega, ?_⟩
    by_cases ez : I 115 k = 0
    · rw [if_pos ez]
      simp only [x_Md_isFactor_167, x_Md_isFactor_170]
      refine ⟨⟨by omega, by omega⟩, ih _ (by omega) (by omega) (fun j a b => ?_)⟩
      by_cases ej : j = k
      · rw [ej]; exact ez
      · exact hz j a (by omega)
    · rw [if_neg ez]
      simp only [x_Md_isFactor_173, x_Md_isFactor_174, x_Md_isFactor_176, x_Md_isFactor_183, x_Md_isFactor_184]
      rw [if_neg (by omega)]
      refine ⟨by decide, h0 (fun hf => ez ?_)⟩
      have k17 : k < 17 := by
        by_cases hk : k < 17
        · exact hk
        · exact absurd (hL.2.1 k (by omega) (by omega)) ez
      have := on_roots 17 (I 115) (by omega) (fun x x0 x1 => by
        have h2 := hL.2.2 x
        have h3 := hf x x0 (by omega)
        rw [show (24 : Nat) = 17 + 7 by rfl, on_hv_le 7 (fun k p q => hL.2.1 k (by omega) (by omega))] at h2
        omega) k g2 (by omega)
      have := hL.1 k g2 (by omega)
      omega
theorem md_if_i {sc : Int × (Int → Int)} {d : Nat} {s : Int} {q : Nat → Int} {Q : Option om_V → om_H → Prop} {c e : Int} (hs : s = 0 ∨ s = 1) (hc : 0 ≤ c ∧ c < 31) (he : 0 ≤ e ∧ e < 31) {A : Int → Int → Int} (rA : om_r31 A) : ∀ (m i : Nat) (y4 y5 y6 : om_V) (F : Int → Int) (I : Nat → Int → Int), i + m = 5 → om_mt I 0 = A → (∀ j : Int, 0 ≤ j → j < 9 → I 116 j = F j) → on_pt s c e i F → on_lf I (fun x => om_sm (fun i => on_hv (A i) x 0 13 * on_nw s c e x i.toNat) i) → (∀ I', (∀ b, b ≠ 115 → b ≠ 116 → b ≠ 117 → I' b = I b) → (on_fac s A c e → Q (some (.inl 1)) (om_O s q, I')) ∧ (¬ on_fac s A c e → Q (some (.inl 0)) (om_O s q, I'))) → om_R sc (d + 2) 151 52 [.inr (.inl 101), .inl c, .inl e, .inl i, y4, y5, y6] [] (om_O s q, I) Q := by
  intro m
  induction m with
  | zero =>
    intro i y4 y5 y6 F I g1 hA hF hP hL hq
    simp only [x_Md_isFactor_52, x_Md_isFactor_53, x_Md_isFactor_54, x_Md_isFactor_150, x_Md_isFactor_151]
    rw [if_pos (by omega)]
    have ei : i = 5 := by omega
    subst ei
    exact md_if_e hL (hq I (fun _ _ _ _ => rfl)).1 (hq I (fun _ _ _ _ => rfl)).2 24 0 (by omega) (by omega) (fun j a b => by omega)
  | succ m ih =>
    intro i y4 y5 y6 F I g1 hA hF hP hL hq
    simp only [x_Md_isFactor_52, x_Md_isFactor_53, x_Md_isFactor_54]
    rw [if_neg (by omega)]
    simp only [x_Md_isFactor_57, x_Md_isFactor_58]
    have h := md_if_a (sc := sc) (d := d) (s := s) (q := q) (Q := Q) (c := c) (e := e) (i := i) (T := fun x => om_sm (fun i => on_hv (A i) x 0 13 * on_nw s c e x i.toNat) i) (by omega) hP.1 (fun k hk => hP.2.1 k (by omega)) rA (fun I1 => (∀ b, b ≠ 115 → I1 b = I b) ∧ on_lf I1 (fun x => om_sm (fun i => on_hv (A i) x 0 13 * on_nw s c e x i.toNat) (i + 1))) (fun I1 y z ⟨f1, f2⟩ => ?_) 13 0 y5 y6 I rfl hA hF ⟨hL.1, hL.2.1, fun x => ?_⟩ (fun I1 f1 f2 => ⟨f1, f2.1, f2.2.1, fun x => ?_⟩)
    · simpa using h
    · simp only [x_Md_isFactor_138, x_Md_isFactor_139, x_Md_isFactor_140, x_Md_isFactor_141, rO_101, Option.toList_some, Option.toList_none, List.cons_append, List.nil_append, List.length_cons, List.length_nil, Nat.reduceAdd, Nat.zero_add, Nat.reduceLeDiff, true_and]
      refine md_next (i := i) hs (by omega) hc he hP.1 hP.2.1 (fun j a b => by rw [f1 116 (by decide)]; exact hF j a b) (fun I2 f3 f4 => ?_)
      simp only [x_Md_isFactor_144, x_Md_isFactor_147, Option.toList_some, Option.toList_none, List.cons_append, List.nil_append, List.length_cons, List.length_nil, Nat.reduceAdd, Nat.zero_add, Nat.reduceLeDiff, true_and]
      refine ⟨⟨by omega, by omega⟩, ?_⟩
      have em : om_mt I2 0 = A := by
        rw [← hA]
        funext i k
        unfold om_mt
        rw [f3 103 (by decide) (by decide), f1 103 (by decide)]
      have h := ih (i + 1) (.inl 13) y z (on_nx s c e F) I2 (by omega) em f4 (on_pt_s (by omega) hP) (by
        unfold on_lf
        rw [f3 115 (by decide) (by decide)]
        exact f2) (fun I' f5 => hq I' (fun b b1 b2 b3 => by rw [f5 b b1 b2 b3, f3 b b2 b3, f1 b b1]))
      simpa using h
    · have := hL.2.2 x
      have e0 : on_hv (A i) x 0 0 = 0 := rfl
      dsimp only
      rw [e0, Int.zero_mul, Int.add_zero]
      exact this
    · have g := f2.2.2 x
      have v := on_dmul (u := on_hv (A i) x 0 13) (on_pt_v (by omega) hP x)
      show (on_hv (I1 115) x 0 24 - (om_sm (fun i => on_hv (A i) x 0 13 * on_nw s c e x i.toNat) i + on_hv (A i) x 0 13 * on_nw s c e x (i : Int).toNat)) % 31 = 0
      rw [Int.toNat_natCast]
      dsimp only at g
      rw [Int.mul_comm (on_hv F x 0 8), Int.mul_comm (on_nw s c e x i)] at v
      omega
theorem md_isFactor {sc : Int × (Int → Int)} {d : Nat} {s : Int} {q : Nat → Int} {I : Nat → Int → Int} {Q : Option om_V → om_H → Prop} {c e : Int} (hs : s = 0 ∨ s = 1) (hc : 0 ≤ c ∧ c < 31) (he : 0 ≤ e ∧ e < 31) {A : Int → Int → Int} (rA : om_r31 A) (hA : om_mt I 0 = A) (hq : ∀ I', (∀ b, b ≠ 115 → b ≠ 116 → b ≠ 117 → I' b = I b) → (on_fac s A c e → Q (some (.inl 1)) (om_O s q, I')) ∧ (¬ on_fac s A c e → Q (some (.inl 0)) (om_O s q, I'))) : om_R sc (d + 2) 151 0 [.inr (.inl 101), .inl c, .inl e, om_un, om_un, om_un, om_un] [] (om_O s q, I) Q := by
  simp only [x_Md_isFactor_0, x_Md_isFactor_1]
  refine md_if_0 (fun I1 => (∀ b, b ≠ 115 → I1 b = I b) ∧ ∀ j : Int, 0 ≤ j → j < 24 → I1 115 j = 0) (fun I1 ⟨f1, f2⟩ => ?_) 24 0 I (by omega) (by omega) (fun j a b => by omega) (fun I1 f1 f2 => ⟨f1, f2⟩)
  simp only [x_Md_isFactor_21, x_Md_isFactor_22]
  refine md_if_1 (fun I2 => (∀ b, b ≠ 116 → I2 b = I1 b) ∧ ∀ j : Int, 0 ≤ j → j < 9 → I2 116 j = if j = 0 then 1 else 0) (fun I2 ⟨f3, f4⟩ => ?_) 9 0 I1 (by omega) (by omega) (fun j a b => by omega) (fun I2 f3 f4 => ⟨f3, f4⟩)
  simp only [x_Md_isFactor_50, x_Md_isFactor_51]
  have em : om_mt I2 0 = A := by
    rw [← hA]
    funext i k
    unfold om_mt
    rw [f3 103 (by decide), f1 103 (by decide)]
  have z : ∀ j : Int, 0 ≤ j → j < 24 → I2 115 j = 0 := fun j a b => by rw [f3 115 (by decide)]; exact f2 j a b
  have h := md_if_i (sc := sc) (d := d) (s := s) (q := q) (Q := Q) hs hc he rA 5 0 om_un om_un om_un (fun k => if k = 0 then 1 else 0) I2 rfl em f4 on_pt_0 ⟨fun k a b => by rw [z k a b]; decide, fun k a b => z k (by omega) b, fun x => by rw [on_hv_z 24 0 (fun k p q => z k p (by omega))]; rfl⟩ (fun I' f5 => hq I' (fun b b1 b2 b3 => by rw [f5 b b1 b2 b3, f3 b b2, f1 b b1]))
  simpa using h
theorem md_order2 {sc : Int × (Int → Int)} {d : Nat} {s : Int} {q : Nat → Int} {I : Nat → Int → Int} {Q : Option om_V → om_H → Prop} {r : Int} (h0 : ¬ (0 ≤ r ∧ r < 8) → Q (some (.inl (-2))) (om_O s q, I)) (h1 : 0 ≤ r ∧ r < 8 → ∀ I', om_fr I I' 0 → om_mt I' 0 = om_hd I r → Q (some (.inl (om_or 5 13 (om_hd I r)))) (om_O s q, I')) : om_R sc (d + 3) 128 0 [.inr (.inl 101), .inl r] [] (om_O s q, I) Q := by
  have n10 : ¬ (1 : Int) = 0 := by decide
  simp only [x_Md_order_0, x_Md_order_1, Option.toList_some, Option.toList_none, List.cons_append, List.nil_append, List.length_cons, List.length_nil, Nat.reduceAdd, Nat.zero_add, Nat.reduceLeDiff, true_and]
  refine md_isRegister (fun hr => ?_) (fun hr => ?_)
  · simp only [x_Md_order_4, x_Md_order_7, x_Md_order_9, x_Md_order_10, x_Md_order_11, x_Md_order_12, x_Md_order_13, Option.toList_some, Option.toList_none, List.cons_append, List.nil_append, List.length_cons, List.length_nil, Nat.reduceAdd, Nat.zero_add, Nat.reduceLeDiff, true_and, if_neg n10, rO_101]
    refine md_load (by decide) (by omega) (fun I1 f1 f2 => ?_)
    simp only [x_Md_order_16, x_Md_order_17, x_Md_order_18, Option.toList_some, Option.toList_none, List.cons_append, List.nil_append, List.length_cons, List.length_nil, Nat.reduceAdd, Nat.zero_add, Nat.reduceLeDiff, true_and, rO_101]
    refine md_orderOf (by decide) ?_
    rw [f2, om_or_e (om_hd_su (I := I) (h := r)) (by omega) (by omega) (by omega)]
    simp only [x_Md_order_21, Option.toList_some, Option.toList_none, List.cons_append, List.nil_append, List.length_cons, List.length_nil, Nat.reduceAdd, Nat.zero_add, Nat.reduceLeDiff, true_and]
    exact h1 hr I1 f1 f2
  · simp only [x_Md_order_4, x_Md_order_7, x_Md_order_9, Option.toList_some, Option.toList_none, List.cons_append, List.nil_append, List.length_cons, List.length_nil, Nat.reduceAdd, Nat.zero_add, Nat.reduceLeDiff, true_and, if_true]
    exact h0 hr
theorem md_fa_l {sc : Int × (Int → Int)} {d : Nat} {s : Int} {q : Nat → Int} {Q : Option om_V → om_H → Prop} {A : Int → Int → Int} {a : Int} (hs : s = 0 ∨ s = 1) (rA : om_r31 A) : ∀ (m k : Nat) (I : Nat → Int → Int), k + m = 961 → om_mt I 0 = A → (∀ j : Int, 0 ≤ j → j < k → I 114 j = on_fl s A j) → (∀ I', (∀ b, b ≠ 114 → b ≠ 115 → b ≠ 116 → b ≠ 117 → I' b = I b) → (∀ j : Int, 0 ≤ j → j < 961 → I' 114 j = on_fl s A j) → Q (some (.inl (om_ct (on_fl s A) 961))) (om_O s q, I')) → om_R sc (d + 3) 150 24 [.inr (.inl 101), .inl a, .inl (om_ct (on_fl s A) k), .inl (k : Int)] [] (om_O s q, I) Q := by
  have n10 : ¬ (1 : Int) = 0 := by decide
  intro m
  induction m with
  | zero =>
    intro k I h1 hA hI hq
    simp only [x_Md_factor_24, x_Md_factor_25, x_Md_factor_28, x_Md_factor_72, x_Md_factor_73]
    rw [if_pos (by omega)]
    have e : k = 961 := by omega
    subst e
    exact hq I (fun _ _ _ _ _ => rfl) hI
  | succ m ih =>
    intro k I h1 hA hI hq
    have cb := on_ct_b (f := on_fl s A) k
    have e1 : om_ct (on_fl s A) (k + 1) = om_ct (on_fl s A) k + (if on_fl s A k = 0 then 0 else 1) := rfl
    have et : Int.tdiv (k : Int) 31 = (k : Int) / 31 := Int.tdiv_eq_ediv_of_nonneg (by omega)
    simp only [x_Md_factor_24, x_Md_factor_25, x_Md_factor_28]
    rw [if_neg (by omega)]
    simp only [x_Md_factor_31, x_Md_factor_32, x_Md_factor_35, x_Md_factor_36, x_Md_factor_37, x_Md_factor_38, x_Md_factor_40, x_Md_factor_41, x_Md_factor_42, x_Md_factor_44, x_Md_factor_45, rO_101, gO_101_19, om_tm0 (show (0 : Int) ≤ (k : Int) by omega), et, Option.toList_some, Option.toList_none, List.cons_append, List.nil_append, List.length_cons, List.length_nil, Nat.reduceAdd, Nat.zero_add, Nat.reduceLeDiff, true_and]
    refine ⟨by decide, by decide, ?_⟩
    refine md_isFactor hs (by omega) (by omega) rA hA (fun I1 f1 => ?_)
    have nx : ∀ v, v = on_fl s A k → om_R sc (d + 3) 150 24 [.inr (.inl 101), .inl a, .inl (om_ct (on_fl s A) (k + 1)), .inl ((k : Int) + 1)] [] (om_O s q, om_u I1 114 (om_p (I1 114) k v)) Q := by
      intro v hv
      have em : om_mt (om_u I1 114 (om_p (I1 114) k v)) 0 = A := by
        rw [← hA]
        funext i k
        unfold om_mt
        rw [om_u_ne (by decide), f1 103 (by decide) (by decide) (by decide)]
      have h := ih (k + 1) (om_u I1 114 (om_p (I1 114) k v)) (by omega) em (fun j a b => by
        rw [om_u_eq]
        by_cases e : j = k
        · rw [e, om_p_eq, hv]
        · rw [om_p_ne e, f1 114 (by decide) (by decide) (by decide)]
          exact hI j a (by omega)) (fun I' f2 f3 => hq I' (fun b b0 b1 b2 b3 => by rw [f2 b b0 b1 b2 b3, om_u_ne b0, f1 b b1 b2 b3]) f3)
      simpa using h
    constructor
    · intro hf
      have w := on_fl_1 hf
      rw [w, if_neg n10] at e1
      simp only [x_Md_factor_48, x_Md_factor_49, x_Md_factor_50, x_Md_factor_53, x_Md_factor_54, x_Md_factor_55, x_Md_factor_58, x_Md_factor_59, x_Md_factor_60, x_Md_factor_61, x_Md_factor_65, x_Md_factor_66, x_Md_factor_69, gO_101_19, aO_114, om_u_eq, om_p_eq, if_neg n10, Option.toList_some, Option.toList_none, List.cons_append, List.nil_append, List.length_cons, List.length_nil, Nat.reduceAdd, Nat.zero_add, Nat.reduceLeDiff, true_and]
      refine ⟨by omega, Or.inr trivial, by omega, ⟨by omega, by omega⟩, ⟨by omega, by omega⟩, ?_⟩
      have h := nx 1 w.symm
      rw [e1] at h
      exact h
    · intro hf
      have w := on_fl_0 hf
      rw [w, if_pos rfl, Int.add_zero] at e1
      simp only [x_Md_factor_48, x_Md_factor_49, x_Md_factor_50, x_Md_factor_53, x_Md_factor_54, x_Md_factor_55, x_Md_factor_64, x_Md_factor_65, x_Md_factor_66, x_Md_factor_69, gO_101_19, aO_114, om_u_eq, om_p_eq, if_true, Option.toList_some, Option.toList_none, List.cons_append, List.nil_append, List.length_cons, List.length_nil, Nat.reduceAdd, Nat.zero_add, Nat.reduceLeDiff, true_and]
      refine ⟨by omega, Or.inl trivial, by omega, ⟨by omega, by omega⟩, ?_⟩
      have h := nx 0 w.symm
      rw [e1] at h
      exact h
theorem md_factor {sc : Int × (Int → Int)} {d : Nat} {s : Int} {q : Nat → Int} {I : Nat → Int → Int} {Q : Option om_V → om_H → Prop} {a : Int} (hs : s = 0 ∨ s = 1) (rA : ∀ r, 0 ≤ r → r < 8 → om_r31 (om_hd I r)) (h0 : ¬ (0 ≤ a ∧ a < 8) → Q (some (.inl (-1))) (om_O s q, I)) (h5 : 0 ≤ a ∧ a < 8 → om_or 5 13 (om_hd I a) < 0 → ∀ I', (∀ b, b ≠ 103 → I' b = I b) → Q (some (.inl (-5))) (om_O s q, I')) (h1 : 0 ≤ a ∧ a < 8 → 0 ≤ om_or 5 13 (om_hd I a) → ∀ I', (∀ b, b ≠ 103 → b ≠ 114 → b ≠ 115 → b ≠ 116 → b ≠ 117 → I' b = I b) → (∀ j : Int, 0 ≤ j → j < 961 → I' 114 j = on_fl s (om_hd I a) j) → Q (some (.inl (om_ct (on_fl s (om_hd I a)) 961))) (om_O s q, I')) : om_R sc (d + 4) 150 0 [.inr (.inl 101), .inl a, om_un, om_un] [] (om_O s q, I) Q := by
  have n10 : ¬ (1 : Int) = 0 := by decide
  simp only [x_Md_factor_0, x_Md_factor_1, Option.toList_some, Option.toList_none, List.cons_append, List.nil_append, List.length_cons, List.length_nil, Nat.reduceAdd, Nat.zero_add, Nat.reduceLeDiff, true_and]
  refine md_isRegister (fun hr => ?_) (fun hr => ?_)
  · simp only [x_Md_factor_4, x_Md_factor_9, x_Md_factor_10, x_Md_factor_11, rO_101, Option.toList_some, Option.toList_none, List.cons_append, List.nil_append, List.length_cons, List.length_nil, Nat.reduceAdd, Nat.zero_add, Nat.reduceLeDiff, true_and, if_neg n10]
    refine md_order2 (fun hn => absurd hr hn) (fun _ I1 f1 f2 => ?_)
    simp only [x_Md_factor_14, Option.toList_some, Option.toList_none, List.cons_append, List.nil_append, List.length_cons, List.length_nil, Nat.reduceAdd, Nat.zero_add, Nat.reduceLeDiff, true_and]
    by_cases ho : 0 ≤ om_or 5 13 (om_hd I a)
    · rw [if_pos ho]
      simp only [x_Md_factor_20, x_Md_factor_21, x_Md_factor_22, x_Md_factor_23]
      have h := md_fa_l (sc := sc) (d := d + 1) (s := s) (q := q) (Q := Q) (a := a) hs (rA a hr.1 hr.2) 961 0 I1 rfl f2 (fun j a b => by omega) (fun I' f3 f4 => h1 hr ho I' (fun b b0 b1 b2 b3 b4 => by rw [f3 b b1 b2 b3 b4, f1.1 b b0]) f4)
      simpa [om_ct] using h
    · rw [if_neg ho]
      simp only [x_Md_factor_17, x_Md_factor_19]
      exact h5 hr (by omega) I1 f1.1
  · simp only [x_Md_factor_4, x_Md_factor_7, x_Md_factor_8, Option.toList_some, Option.toList_none, List.cons_append, List.nil_append, List.length_cons, List.length_nil, Nat.reduceAdd, Nat.zero_add, Nat.reduceLeDiff, true_and, if_true]
    exact h0 hr
