/-! the reference's work, along the grammar -/
theorem ox_ty_m {q : Nat → Int} {I I1 : Nat → Int → Int} {c : Int → Int} {n o : Int} (hT : ox_ty q I c n) (h : ox_bf o I I1) : ox_ty q I1 c n := ⟨hT.1, fun k a b => by rw [h.1 104 (by decide) (by decide) (by decide) (by decide)]; exact hT.2 k a b⟩
def ox_Wk (sc : Int × (Int → Int)) (D : Nat) (s : Int) (q : Nat → Int) (Q : Option om_V → om_H → Prop) (I : Nat → Int → Int) (i o : Int) : Prop := ∀ x2, om_R sc D 104 16 [.inr (.inl 101), .inl i, x2] [] (om_O s (oy_q q o 0), I) Q
theorem wk_large {sc : Int × (Int → Int)} {d : Nat} {s : Int} {q : Nat → Int} {I : Nat → Int → Int} {Q : Option om_V → om_H → Prop} {o v sg t b : Int} {x2 : om_V} {a P : Int → Int → Int} (ho : 0 ≤ o ∧ o < 5) (hW : ox_W I o a P sg b) (hst : ox_sr sg t) (ra : om_r31 a) (rP : om_r31 P) (hq : ∀ I' lv, ox_bf 0 I I' → Q none (om_O s (oy_q q lv 1), I')) : om_R sc (d + 7) 104 16 [.inr (.inl 101), .inl v, x2] [] (om_O s (oy_q q o 1), I) Q := by
  have n10 : ¬ (1 : Int) = 0 := by decide
  have go : om_R sc (d + 7) 104 178 [.inr (.inl 101), .inl v, x2] [] (om_O s (oy_q q o 1), I) Q := by
    simp only [x_Md_work_178, x_Md_work_179, rO_101, Option.toList_some, Option.toList_none, List.cons_append, List.nil_append, List.length_cons, List.length_nil, Nat.reduceAdd, Nat.zero_add, Nat.reduceLeDiff, true_and]
    refine md_endProduct ho hW hst ra rP (fun I' f1 f2 => ?_)
    simp only [x_Md_work_182, Option.toList_some, Option.toList_none, List.cons_append, List.nil_append, List.length_cons, List.length_nil, Nat.reduceAdd, Nat.zero_add, Nat.reduceLeDiff, true_and]
    exact hq I' o (ox_bf_tr f1 ox_bf_rf (by omega) (Int.le_refl _))
  simp only [x_Md_work_16, x_Md_work_17, x_Md_work_18, x_Md_work_21, x_Md_work_24, x_Md_work_25, x_Md_work_28, gO_101_3, gO_101_8, oy_q_7, oy_q_9, Option.toList_some, Option.toList_none, List.cons_append, List.nil_append, List.length_cons, List.length_nil, Nat.reduceAdd, Nat.zero_add, Nat.reduceLeDiff, true_and, if_neg n10]
  split
  · exact go
  · exact go
theorem wk_end {sc : Int × (Int → Int)} {d : Nat} {s : Int} {q : Nat → Int} {I : Nat → Int → Int} {Q : Option om_V → om_H → Prop} {c : Int → Int} {n o i sg t b : Int} {a P : Int → Int → Int} (hT : ox_ty q I c n) (hi : n ≤ i) (ho : 0 ≤ o ∧ o < 5) (hW : ox_W I o a P sg b) (hst : ox_sr sg t) (ra : om_r31 a) (rP : om_r31 P) (hq : ∀ I', ox_bf o I I' → ox_W I' o (om_ad a P t) P sg b → Q none (om_O s (oy_q q o 0), I')) : ox_Wk sc (d + 7) s q Q I i o := by
  intro x2
  simp only [x_Md_work_16, x_Md_work_17, x_Md_work_18, x_Md_work_21, gO_101_3, oy_q_7, hT.1, Option.toList_some, Option.toList_none, List.cons_append, List.nil_append, List.length_cons, List.length_nil, Nat.reduceAdd, Nat.zero_add, Nat.reduceLeDiff, true_and]
  rw [if_pos hi]
  simp only [x_Md_work_178, x_Md_work_179, rO_101, Option.toList_some, Option.toList_none, List.cons_append, List.nil_append, List.length_cons, List.length_nil, Nat.reduceAdd, Nat.zero_add, Nat.reduceLeDiff, true_and]
  refine md_endProduct ho hW hst ra rP (fun I' f1 f2 => ?_)
  simp only [x_Md_work_182, Option.toList_some, Option.toList_none, List.cons_append, List.nil_append, List.length_cons, List.length_nil, Nat.reduceAdd, Nat.zero_add, Nat.reduceLeDiff, true_and]
  exact hq I' f1 f2
theorem wk_head {sc : Int × (Int → Int)} {d : Nat} {s : Int} {q : Nat → Int} {I : Nat → Int → Int} {Q : Option om_V → om_H → Prop} {c : Int → Int} {n o i : Int} (hc : ox_cc c n) (hT : ox_ty q I c n) (h0 : 0 ≤ i) (h1 : i < n) (hq : om_R sc (d + 7) 104 38 [.inr (.inl 101), .inl i, .inl (c i)] [] (om_O s (oy_q q o 0), I) Q) : ox_Wk sc (d + 7) s q Q I i o := by
  have b1 := hc.1
  intro x2
  simp only [x_Md_work_16, x_Md_work_17, x_Md_work_18, x_Md_work_21, x_Md_work_24, x_Md_work_25, x_Md_work_28, gO_101_3, gO_101_8, oy_q_7, oy_q_9, hT.1, Option.toList_some, Option.toList_none, List.cons_append, List.nil_append, List.length_cons, List.length_nil, Nat.reduceAdd, Nat.zero_add, Nat.reduceLeDiff, true_and, if_true]
  rw [if_neg (by omega)]
  simp only [x_Md_work_31, x_Md_work_32, x_Md_work_35, x_Md_work_36, x_Md_work_37, gO_101_4, aO_104, hT.2 i h0 h1, Option.toList_some, Option.toList_none, List.cons_append, List.nil_append, List.length_cons, List.length_nil, Nat.reduceAdd, Nat.zero_add, Nat.reduceLeDiff, true_and]
  exact ⟨by omega, hq⟩
theorem wk_star {sc : Int × (Int → Int)} {d : Nat} {s : Int} {q : Nat → Int} {I : Nat → Int → Int} {Q : Option om_V → om_H → Prop} {c : Int → Int} {n o i : Int} (hc : ox_cc c n) (hT : ox_ty q I c n) (h0 : 0 ≤ i) (h1 : i < n) (h4 : c i = 42) (hq : ox_Wk sc (d + 7) s q Q I (i + 1) o) : ox_Wk sc (d + 7) s q Q I i o := by
  have b1 := hc.1
  refine wk_head hc hT h0 h1 ?_
  simp only [x_Md_work_38, x_Md_work_39, x_Md_work_41, x_Md_work_64, x_Md_work_65, x_Md_work_67, x_Md_work_108, x_Md_work_109, x_Md_work_111, x_Md_work_114, x_Md_work_115, x_Md_work_117, x_Md_work_157, x_Md_work_158, x_Md_work_160, x_Md_work_163, x_Md_work_164, x_Md_work_165, x_Md_work_166, x_Md_work_174, x_Md_work_175, Option.toList_some, Option.toList_none, List.cons_append, List.nil_append, List.length_cons, List.length_nil, Nat.reduceAdd, Nat.zero_add, Nat.reduceLeDiff, true_and]
  rw [if_neg (by omega), if_neg (by omega), if_neg (by omega), if_neg (by omega), if_pos h4]
  exact ⟨⟨by omega, by omega⟩, hq _⟩
theorem wk_sign {sc : Int × (Int → Int)} {d : Nat} {s : Int} {q : Nat → Int} {I : Nat → Int → Int} {Q : Option om_V → om_H → Prop} {c : Int → Int} {n o i sg t b : Int} {a P a' : Int → Int → Int} (hc : ox_cc c n) (hT : ox_ty q I c n) (ho : 0 ≤ o ∧ o < 5) (h0 : 0 ≤ i) (h1 : i < n) (h4 : ox_sg (c i)) (hW : ox_W I o a P sg b) (hst : ox_sr sg t) (ra : om_r31 a) (rP : om_r31 P) (hb : (b = 0 ∧ a' = a) ∨ (b = 1 ∧ a' = om_ad a P t)) (hq : ∀ I' sg', ox_bf o I I' → ox_W I' o a' (ox_t1 0 0 1) sg' 0 → ox_sr sg' (ox_tm (c i)) → ox_Wk sc (d + 7) s q Q I' (i + 1) o) : ox_Wk sc (d + 7) s q Q I i o := by
  have b1 := hc.1
  have n10 : ¬ (1 : Int) = 0 := by decide
  refine wk_head hc hT h0 h1 ?_
  have fin : ∀ (I1 : Nat → Int → Int) P', ox_bf o I I1 → ox_W I1 o a' P' sg b → om_R sc (d + 7) 104 136 [.inr (.inl 101), .inl i, .inl (c i)] [] (om_O s (oy_q q o 0), I1) Q := by
    intro I1 P' g1 g2
    simp only [x_Md_work_136, x_Md_work_137, x_Md_work_138, x_Md_work_140, rO_101, Option.toList_some, Option.toList_none, List.cons_append, List.nil_append, List.length_cons, List.length_nil, Nat.reduceAdd, Nat.zero_add, Nat.reduceLeDiff, true_and]
    by_cases e : c i = 43
    · rw [if_pos e]
      simp only [x_Md_work_143, x_Md_work_144, x_Md_work_148, rO_101, Option.toList_some, Option.toList_none, List.cons_append, List.nil_append, List.length_cons, List.length_nil, Nat.reduceAdd, Nat.zero_add, Nat.reduceLeDiff, true_and]
      refine md_beginProduct ho g2 (fun I2 f1 f2 => ?_)
      simp only [x_Md_work_151, x_Md_work_154, x_Md_work_175, Option.toList_some, Option.toList_none, List.cons_append, List.nil_append, List.length_cons, List.length_nil, Nat.reduceAdd, Nat.zero_add, Nat.reduceLeDiff, true_and]
      exact ⟨⟨by omega, by omega⟩, hq I2 1 (ox_bf_tr g1 f1 (Int.le_refl _) (Int.le_refl _)) f2 (by rw [e]; exact Or.inl ⟨rfl, rfl⟩) _⟩
    · rw [if_neg e]
      simp only [x_Md_work_147, x_Md_work_148, rO_101, Option.toList_some, Option.toList_none, List.cons_append, List.nil_append, List.length_cons, List.length_nil, Nat.reduceAdd, Nat.zero_add, Nat.reduceLeDiff, true_and]
      refine md_beginProduct ho g2 (fun I2 f1 f2 => ?_)
      simp only [x_Md_work_151, x_Md_work_154, x_Md_work_175, Option.toList_some, Option.toList_none, List.cons_append, List.nil_append, List.length_cons, List.length_nil, Nat.reduceAdd, Nat.zero_add, Nat.reduceLeDiff, true_and]
      exact ⟨⟨by omega, by omega⟩, hq I2 (-1) (ox_bf_tr g1 f1 (Int.le_refl _) (Int.le_refl _)) f2 (by rw [show c i = 45 by omega]; exact Or.inr ⟨rfl, rfl⟩) _⟩
  have go : om_R sc (d + 7) 104 120 [.inr (.inl 101), .inl i, .inl (c i)] [] (om_O s (oy_q q o 0), I) Q := by
    simp only [x_Md_work_120, x_Md_work_121, x_Md_work_124, x_Md_work_125, x_Md_work_128, x_Md_work_129, gO_101_6, gO_101_7, aO_106, oy_q_8, hW.2.2.2, rO_101, Option.toList_some, Option.toList_none, List.cons_append, List.nil_append, List.length_cons, List.length_nil, Nat.reduceAdd, Nat.zero_add, Nat.reduceLeDiff, true_and]
    refine ⟨by omega, ?_⟩
    rcases hb with ⟨e1, e2⟩ | ⟨e1, e2⟩
    · rw [if_pos e1]
      exact fin I P ox_bf_rf (e2 ▸ hW)
    · rw [if_neg (by omega)]
      simp only [x_Md_work_132, x_Md_work_133, rO_101, Option.toList_some, Option.toList_none, List.cons_append, List.nil_append, List.length_cons, List.length_nil, Nat.reduceAdd, Nat.zero_add, Nat.reduceLeDiff, true_and]
      refine md_endProduct ho hW hst ra rP (fun I1 f1 f2 => ?_)
      exact fin I1 P f1 (e2 ▸ f2)
  simp only [x_Md_work_38, x_Md_work_39, x_Md_work_41, x_Md_work_64, x_Md_work_65, x_Md_work_67, x_Md_work_108, x_Md_work_109, x_Md_work_111, x_Md_work_114, x_Md_work_115, x_Md_work_117, Option.toList_some, Option.toList_none, List.cons_append, List.nil_append, List.length_cons, List.length_nil, Nat.reduceAdd, Nat.zero_add, Nat.reduceLeDiff, true_and]
  rw [if_neg (by omega), if_neg (by omega)]
  by_cases e : c i = 43
  · rw [if_pos e]
    exact go
  · rw [if_neg e, if_pos (by omega)]
    exact go
/-- what a reading of a power, of a sum means for work -/
def ox_wP (sc : Int × (Int → Int)) (d : Nat) (s : Int) (q : Nat → Int) (Q : Option om_V → om_H → Prop) (n : Int) (c : Int → Int) (o : Int) (A : Int → Int → Option ox_X) : Prop := ∀ (i : Int) (I : Nat → Int → Int) (a P : Int → Int → Int) (sg t b : Int) (r : ox_X), 0 ≤ i → i ≤ n → ox_ty q I c n → ox_W I o a P sg b → ox_sr sg t → om_r31 a → om_r31 P → A i 0 = some r → (ox_lg r.2.1 (om_mlt s P r.2.2) ≠ 0 → ∀ I' lv, ox_bf 0 I I' → Q none (om_O s (oy_q q lv 1), I')) → (ox_lg r.2.1 (om_mlt s P r.2.2) = 0 → ∀ I', ox_bf o I I' → ox_W I' o a (om_mlt s P r.2.2) sg 1 → ox_Wk sc (d + 7) s q Q I' r.1 o) → ox_Wk sc (d + 7) s q Q I i o
def ox_wS (sc : Int × (Int → Int)) (d : Nat) (s : Int) (q : Nat → Int) (Q : Option om_V → om_H → Prop) (n : Int) (c : Int → Int) (o : Int) (S : Int → Int → Option ox_X) : Prop := ∀ (i : Int) (I : Nat → Int → Int) (r : ox_X), 0 ≤ i → i ≤ n → ox_ty q I c n → ox_W I o (fun _ _ => 0) (ox_t1 0 0 1) 1 0 → S i 0 = some r → (r.2.1 ≠ 0 → ∀ I' lv, ox_bf 0 I I' → Q none (om_O s (oy_q q lv 1), I')) → (r.2.1 = 0 → ∀ I' a P sg t, ox_bf o I I' → ox_W I' o a P sg 1 → ox_sr sg t → om_r31 a → om_r31 P → om_ad a P t = r.2.2 → ox_Wk sc (d + 7) s q Q I' r.1 o) → ox_Wk sc (d + 7) s q Q I i o
theorem ox_pw_tk {s : Int} {c : Int → Int} {A : Int → Int → Option ox_X} {i l : Int} {r : ox_X} (h : ox_pw s c A i l = some r) : ∃ r', A i l = some r' ∧ (c r'.1 = 94 → ox_dg (c (r'.1 + 1))) ∧ r.1 = ox_tj c r'.1 ∧ (r'.2.1 = 0 → ox_tk s c r'.1 r'.2.2 = r.2) := by
  unfold ox_pw at h
  cases e : A i l with
  | none => rw [e] at h; exact absurd h (by simp)
  | some r' =>
    rw [e] at h
    dsimp only at h
    refine ⟨r', rfl, ?_⟩
    by_cases h9 : c r'.1 = 94
    · rw [if_pos h9] at h
      by_cases hd : ox_dg (c (r'.1 + 1))
      · rw [if_pos hd] at h
        injection h with h
        subst h
        refine ⟨fun _ => hd, (if_pos h9).symm, fun w => ?_⟩
        unfold ox_tk
        rw [if_pos h9, w]
      · rw [if_neg hd] at h
        exact absurd h (by simp)
    · rw [if_neg h9] at h
      injection h with h
      subst h
      refine ⟨fun w => absurd w h9, (if_neg h9).symm, fun w => ?_⟩
      unfold ox_tk
      rw [if_neg h9]
      exact Prod.ext w.symm rfl
theorem wk_pw {sc : Int × (Int → Int)} {d : Nat} {s : Int} {q : Nat → Int} {Q : Option om_V → om_H → Prop} {c : Int → Int} {n : Int} {m o : Nat} (hs : s = 0 ∨ s = 1) (hc : ox_cc c n) (ho : o + m = 4) (hS : ∀ m', m = m' + 1 → ox_wS sc d s q Q n c ((o + 1 : Nat) : Int) (ox_S s c m')) : ox_wP sc d s q Q n c o (ox_pw s c (ox_ra c (ox_lo s c m))) := by
  intro i I a P sg t b r h0 h1 hT hW hst ra rP hr hL hK
  have b1 := hc.1
  obtain ⟨r', e1, e2, e3, e4⟩ := ox_pw_tk hr
  have ok := ox_ra_ok hc (ox_lo_ok (s := s) hc m) i 0 r' h0 h1 (Or.inl rfl) e1
  have okr := ox_pw_ok (s := s) hc (ox_ra_ok hc (ox_lo_ok (s := s) hc m)) i 0 r h0 h1 (Or.inl rfl) hr
  rw [e3] at hK
  have HL : r'.2.1 = 0 → ((ox_tk s c r'.1 r'.2.2).1 ≠ 0 ∨ ¬ om_ft (om_mlt s P (ox_tk s c r'.1 r'.2.2).2)) → ∀ I' lv, ox_bf 0 I I' → Q none (om_O s (oy_q q lv 1), I') := by
    intro z w
    rw [e4 z] at w
    refine hL ?_
    rcases w with w | w
    · rw [ox_lg_m w]; decide
    · rw [ox_lg_1 w]; decide
  have HK : r'.2.1 = 0 → (ox_tk s c r'.1 r'.2.2).1 = 0 → om_ft (om_mlt s P (ox_tk s c r'.1 r'.2.2).2) → ∀ I', ox_bf o I I' → ox_W I' o a (om_mlt s P (ox_tk s c r'.1 r'.2.2).2) sg 1 → ox_Wk sc (d + 7) s q Q I' (ox_tj c r'.1) o := by
    intro z w1 w2 I' g1 g2
    rw [e4 z] at w1 w2 g2
    exact hK (ox_lg_0 w1 w2) I' g1 g2
  have at0 : r'.2.1 = 0 → i < n → ((ox_dg (c i) ∧ r'.1 = ox_de c 40 i ∧ r'.2.2 = ox_t1 0 0 (ox_dv c 40 i 0)) ∨ (c i = 120 ∧ r'.1 = i + 1 ∧ r'.2.2 = ox_t1 0 1 1) ∨ (c i = 84 ∧ r'.1 = i + 1 ∧ r'.2.2 = ox_t1 1 0 1)) → ox_Wk sc (d + 7) s q Q I i o := by
    intro z lt w
    refine wk_head hc hT h0 lt ?_
    simp only [x_Md_work_38, x_Md_work_39, x_Md_work_41, x_Md_work_64, x_Md_work_65, x_Md_work_67, x_Md_work_108, x_Md_work_109, x_Md_work_111, x_Md_work_114, x_Md_work_115, x_Md_work_117, x_Md_work_157, x_Md_work_158, x_Md_work_160, x_Md_work_169, x_Md_work_170, x_Md_work_171, rO_101, Option.toList_some, Option.toList_none, List.cons_append, List.nil_append, List.length_cons, List.length_nil, Nat.reduceAdd, Nat.zero_add, Nat.reduceLeDiff, true_and]
    rw [if_neg (by omega), if_neg (by omega), if_neg (by omega), if_neg (by omega), if_neg (by omega)]
    refine md_atom hs hc hT (by omega) ⟨h0, lt⟩ w e2 hW rP (fun w I' v b' g1 g2 => ?_) (fun w1 w2 I' g1 g2 => ?_)
    · simp only [x_Md_work_174, x_Md_work_175, Option.toList_some, Option.toList_none, List.cons_append, List.nil_append, List.length_cons, List.length_nil, Nat.reduceAdd, Nat.zero_add, Nat.reduceLeDiff, true_and]
      exact wk_large (by omega) g2 hst ra rP (fun I'' lv g3 => HL z w I'' lv (ox_bf_tr g1 g3 (by omega) (Int.le_refl _)))
    · simp only [x_Md_work_174, x_Md_work_175, Option.toList_some, Option.toList_none, List.cons_append, List.nil_append, List.length_cons, List.length_nil, Nat.reduceAdd, Nat.zero_add, Nat.reduceLeDiff, true_and]
      exact HK z w1 w2 I' g1 g2 _
  unfold ox_ra at e1
  by_cases hd : ox_dg (c i)
  · rw [if_pos hd] at e1
    injection e1 with e1
    subst e1
    exact at0 rfl (ox_lt hc (by omega)) (Or.inl ⟨hd, rfl, rfl⟩)
  · rw [if_neg hd] at e1
    by_cases hx : c i = 120
    · rw [if_pos hx] at e1
      injection e1 with e1
      subst e1
      exact at0 rfl (ox_lt hc (by omega)) (Or.inr (Or.inl ⟨hx, rfl, rfl⟩))
    · rw [if_neg hx] at e1
      by_cases hx' : c i = 84
      · rw [if_pos hx'] at e1
        injection e1 with e1
        subst e1
        exact at0 rfl (ox_lt hc (by omega)) (Or.inr (Or.inr ⟨hx', rfl, rfl⟩))
      · rw [if_neg hx'] at e1
        by_cases hb : c i = 40
        · rw [if_pos hb] at e1
          have lt := ox_lt (k := i) hc (by omega)
          cases m with
          | zero => exact absurd e1 (by simp [ox_lo, ox_br])
          | succ m =>
            have e1' : ox_br c (ox_S s c m (i + 1) 0) = some r' := e1
            cases e5 : ox_S s c m (i + 1) 0 with
            | none => rw [e5] at e1'; exact absurd e1' (by simp [ox_br])
            | some r2 =>
              rw [e5] at e1'
              dsimp only [ox_br] at e1'
              by_cases hj : c r2.1 = 41
              · rw [if_pos hj] at e1'
                injection e1' with e1'
                subst e1'
                obtain ⟨k1, k2, k3, k4, k5, k6⟩ := ox_S_ok (s := s) hc m (i + 1) 0 r2 (by omega) (by omega) (Or.inl rfl) e5
                have lt2 := ox_lt (k := r2.1) hc (by omega)
                refine wk_head hc hT h0 lt ?_
                have eo : ((o : Int) + 1) = ((o + 1 : Nat) : Int) := by omega
                simp only [x_Md_work_38, x_Md_work_39, x_Md_work_41, x_Md_work_44, x_Md_work_45, x_Md_work_46, x_Md_work_49, x_Md_work_50, x_Md_work_51, x_Md_work_54, x_Md_work_55, gO_101_7, pO_101_7 104 ((o : Int) + 1) rfl, oy_q_8, oy_q_s8, rO_101, Option.toList_some, Option.toList_none, List.cons_append, List.nil_append, List.length_cons, List.length_nil, Nat.reduceAdd, Nat.zero_add, Nat.reduceLeDiff, true_and]
                rw [if_pos hb]
                refine ⟨⟨by omega, by omega⟩, md_open (by omega) (fun I1 f1 f2 => ?_)⟩
                simp only [x_Md_work_58, x_Md_work_61, x_Md_work_175, Option.toList_some, Option.toList_none, List.cons_append, List.nil_append, List.length_cons, List.length_nil, Nat.reduceAdd, Nat.zero_add, Nat.reduceLeDiff, true_and]
                refine ⟨⟨by omega, by omega⟩, ?_⟩
                rw [eo]
                rw [eo] at f1 f2
                refine hS m rfl (i + 1) I1 r2 (by omega) (by omega) (ox_ty_m hT f1) f2 e5 (fun w I' lv g1 => hL ?_ I' lv (ox_bf_tr f1 g1 (by omega) (Int.le_refl _))) (fun z I2 a2 P2 sg2 t2 g1 g2 g3 g4 g5 g6 => ?_) _
                · have : r.2.1 = 1 := by
                    have := ox_pw_ok (s := s) hc (A := fun _ _ => some (r2.1 + 1, r2.2.1, r2.2.2))
                    unfold ox_pw at hr
                    have e7 : ox_ra c (ox_lo s c (m + 1)) i 0 = some (r2.1 + 1, r2.2.1, r2.2.2) := by
                      unfold ox_ra
                      rw [if_neg hd, if_neg hx, if_neg hx', if_pos hb]
                      exact e1
                    rw [e7] at hr
                    dsimp only at hr
                    by_cases h9 : c (r2.1 + 1) = 94
                    · rw [if_pos h9] at hr
                      by_cases hd2 : ox_dg (c (r2.1 + 1 + 1))
                      · rw [if_pos hd2] at hr
                        injection hr with hr
                        subst hr
                        have := (ox_pp_ok (s := s) (l := 1) k6 (c (r2.1 + 1 + 1) - 48).toNat (r2.2.1, ox_t1 0 0 1) ⟨k3, fun _ => by omega, ox_t1_r (by decide), ox_t1_su (by decide)⟩).2.1 (by decide)
                        exact this
                      · rw [if_neg hd2] at hr
                        exact absurd hr (by simp)
                    · rw [if_neg h9] at hr
                      injection hr with hr
                      subst hr
                      dsimp only
                      omega
                  rw [ox_lg_m (by omega)]
                  decide
                · have hT2 := ox_ty_m (ox_ty_m hT f1) g1
                  have fb : ox_bf ((o + 1 : Nat) : Int) I I2 := ox_bf_tr f1 g1 (Int.le_refl _) (Int.le_refl _)
                  refine wk_head hc hT2 (by omega) lt2 ?_
                  simp only [x_Md_work_38, x_Md_work_39, x_Md_work_41, x_Md_work_64, x_Md_work_65, x_Md_work_67, x_Md_work_70, x_Md_work_71, rO_101, Option.toList_some, Option.toList_none, List.cons_append, List.nil_append, List.length_cons, List.length_nil, Nat.reduceAdd, Nat.zero_add, Nat.reduceLeDiff, true_and]
                  rw [if_neg (by omega), if_pos hj]
                  refine md_endProduct (by omega) g2 g3 g4 g5 (fun I3 f3 f4 => ?_)
                  simp only [x_Md_work_74, x_Md_work_75, x_Md_work_76, x_Md_work_77, x_Md_work_78, x_Md_work_81, gO_101_7, oy_q_8, rO_101, Option.toList_some, Option.toList_none, List.cons_append, List.nil_append, List.length_cons, List.length_nil, Nat.reduceAdd, Nat.zero_add, Nat.reduceLeDiff, true_and]
                  refine md_sumOf (by omega) ?_
                  simp only [x_Md_work_84, rO_101, Option.toList_some, Option.toList_none, List.cons_append, List.nil_append, List.length_cons, List.length_nil, Nat.reduceAdd, Nat.zero_add, Nat.reduceLeDiff, true_and]
                  refine md_load (by decide) (by omega) (fun I4 f5 f6 => ?_)
                  rw [f4.1, g6] at f6
                  have eo2 : ((o + 1 : Nat) : Int) - 1 = (o : Int) := by omega
                  simp only [x_Md_work_87, x_Md_work_88, x_Md_work_89, x_Md_work_92, x_Md_work_93, x_Md_work_94, x_Md_work_97, x_Md_work_98, x_Md_work_99, x_Md_work_100, x_Md_work_101, gO_101_7, pO_101_7 104 (((o + 1 : Nat) : Int) - 1) rfl, oy_q_8, oy_q_s8, rO_101, Option.toList_some, Option.toList_none, List.cons_append, List.nil_append, List.length_cons, List.length_nil, Nat.reduceAdd, Nat.zero_add, Nat.reduceLeDiff, true_and]
                  rw [eo2]
                  have fb4 : ox_bf ((o + 1 : Nat) : Int) I I4 := ox_bf_tr fb (ox_bf_tr f3 (ox_bf_fr f5) (Int.le_refl _) (Int.le_refl _)) (Int.le_refl _) (Int.le_refl _)
                  refine ⟨⟨by omega, by omega⟩, ⟨by omega, by omega⟩, ?_⟩
                  refine md_take hs hc (ox_ty_m hT fb4) (by omega) (by omega) e2 (ox_W_m hW fb4 (by omega)) rP f6 k5 k6 (fun w I' v b' l1 l2 => ?_) (fun w1 w2 I' l1 l2 => ?_)
                  · simp only [x_Md_work_104, x_Md_work_105, x_Md_work_175, Option.toList_some, Option.toList_none, List.cons_append, List.nil_append, List.length_cons, List.length_nil, Nat.reduceAdd, Nat.zero_add, Nat.reduceLeDiff, true_and]
                    exact wk_large (by omega) l2 hst ra rP (fun I'' lv l3 => HL z w I'' lv (ox_bf_tr fb4 (ox_bf_tr l1 l3 (by omega) (Int.le_refl _)) (by omega) (Int.le_refl _)))
                  · simp only [x_Md_work_104, x_Md_work_105, x_Md_work_175, Option.toList_some, Option.toList_none, List.cons_append, List.nil_append, List.length_cons, List.length_nil, Nat.reduceAdd, Nat.zero_add, Nat.reduceLeDiff, true_and]
                    exact HK z w1 w2 I' (ox_bf_tr fb4 l1 (by omega) (Int.le_refl _)) l2 _
              · rw [if_neg hj] at e1'
                exact absurd e1' (by simp)
        · rw [if_neg hb] at e1
          exact absurd e1 (by simp)
