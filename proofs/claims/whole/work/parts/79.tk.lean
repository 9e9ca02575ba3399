/-! the reference's take and atom -/
theorem ox_one {s : Int} {V : Int → Int → Int} (rV : om_r31 V) : om_mlt s (ox_t1 0 0 1) V = V := by
  funext j k
  unfold om_mlt
  have e1 : om_sm (fun i => om_cv (ox_t1 0 0 1 i) (om_Ti s V i.toNat) j k) 5 = om_cv (ox_t1 0 0 1 0) (om_Ti s V (0 : Int).toNat) j k := on_sm_one (a := 0) (fun i i0 i1 ne => by
    unfold om_cv
    refine om_sm_0 (fun q q1 q2 => ?_)
    unfold ox_t1
    rw [if_neg (by omega), Int.zero_mul]) (by decide) (by decide)
  rw [e1]
  unfold om_cv
  have e2 : om_sm (fun q => ox_t1 0 0 1 0 q * om_Ti s V (0 : Int).toNat j (k - q)) 64 = ox_t1 0 0 1 0 0 * om_Ti s V (0 : Int).toNat j (k - 0) := on_sm_one (a := 0) (fun q q0 q1 ne => by
    unfold ox_t1
    rw [if_neg (by omega), Int.zero_mul]) (by decide) (by decide)
  rw [e2]
  have e3 : ox_t1 0 0 1 0 0 = 1 := rfl
  have e4 : om_Ti s V (0 : Int).toNat = V := rfl
  rw [e3, e4, Int.one_mul, Int.sub_zero]
  have := rV j k
  omega
theorem ox_ft_su {V : Int → Int → Int} (h : om_su 5 13 V) : om_ft V := by
  intro i k hn
  by_cases e : 0 ≤ i ∧ i < 5 ∧ 0 ≤ k ∧ k < 13
  · omega
  · exact absurd (h i k e) hn
theorem ox_pp_1 {s : Int} {V : Int → Int → Int} (rV : om_r31 V) (sV : om_su 5 13 V) (n : Nat) : ox_pp s V (n + 1) (0, ox_t1 0 0 1) = ox_pp s V n (0, V) := by
  have f := ox_ft_su sV
  show ox_pp s V n (ox_lg 0 (om_mlt s (ox_t1 0 0 1) V), ox_cut (om_mlt s (ox_t1 0 0 1) V)) = _
  rw [ox_one rV, ox_lg_0 rfl f, ox_cut_f f]
theorem ox_pp_m {s : Int} {V W : Int → Int → Int} {n : Nat} (rW : om_r31 W) (sW : om_su 5 13 W) (sV : om_su 5 13 V) : (ox_pp s V n (1, W)).1 = 1 := (ox_pp_ok (l := 1) sV n (1, W) ⟨Or.inr rfl, fun _ => rfl, rW, sW⟩).2.1 (by decide)
/-- the tables of the reference that a reading uses -/
theorem md_tk_l {sc : Int × (Int → Int)} {d : Nat} {s : Int} {q : Nat → Int} {Q : Option om_V → om_H → Prop} {c : Int → Int} {n o i e : Int} {a P V : Int → Int → Int} {sg b : Int} (hs : s = 0 ∨ s = 1) (hn : q 7 = n) (ho : 0 ≤ o ∧ o < 5) (rV : om_r31 V) (sV : om_su 5 13 V) (K : (Nat → Int → Int) → (Int → Int → Int) → Prop) (hK : ∀ I' W y, K I' W → om_R sc (d + 5) 114 118 [.inr (.inl 101), .inl i, .inl 1, .inl e, y] [] (om_O s (oy_q q o 0), I') Q) : ∀ (m : Nat) (k : Int) (W : Int → Int → Int) (I : Nat → Int → Int), k + m = e → 1 ≤ k → e ≤ 9 → ox_W I o a P sg b → om_mt I 0 = V → om_mt I 3 = W → om_r31 W → om_su 5 13 W → (∀ I', ox_bf o I I' → ox_W I' o a P sg b → (ox_pp s V m (0, W)).1 ≠ 0 → Q (some (.inl n)) (om_O s (oy_q q o 1), I')) → (∀ I', ox_bf o I I' → ox_W I' o a P sg b → (ox_pp s V m (0, W)).1 = 0 → om_mt I' 0 = V → om_mt I' 3 = (ox_pp s V m (0, W)).2 → K I' (ox_pp s V m (0, W)).2) → om_R sc (d + 5) 114 38 [.inr (.inl 101), .inl i, .inl 1, .inl e, .inl k] [] (om_O s (oy_q q o 0), I) Q := by
  have n10 : ¬ (1 : Int) = 0 := by decide
  intro m
  induction m with
  | zero =>
    intro k W I h1 h2 h3 hW hV h3t rW sW hL hq
    simp only [x_Md_take_38, x_Md_take_40, x_Md_take_41]
    rw [if_pos (by omega)]
    exact hK I _ _ (hq I ox_bf_rf hW rfl hV h3t)
  | succ m ih =>
    intro k W I h1 h2 h3 hW hV h3t rW sW hL hq
    simp only [x_Md_take_38, x_Md_take_40, x_Md_take_41, x_Md_take_44, x_Md_take_45, x_Md_take_48, x_Md_take_50]
    rw [if_neg (by omega), if_neg n10, if_neg (show ¬ k = 0 by omega)]
    simp only [x_Md_take_62, x_Md_take_63, x_Md_take_64, x_Md_take_65, x_Md_take_66, x_Md_take_67, rO_101, Option.toList_some, Option.toList_none, List.cons_append, List.nil_append, List.length_cons, List.length_nil, Nat.reduceAdd, Nat.zero_add, Nat.reduceLeDiff, true_and]
    refine md_multiplyTables hs (by decide) (by decide) (by decide) (by decide) (by decide) (by decide) (by decide) (by decide) (by rw [h3t]; exact sW) (by rw [h3t]; exact rW) (by rw [hV]; exact sV) (by rw [hV]; exact rV) (fun I1 f1 f2 => ?_)
    rw [h3t, hV] at f2
    have hW1 := ox_W_f2 hW f1
    have V1 : om_mt I1 0 = V := by rw [f1.2 0 (by decide) (by decide)]; exact hV
    simp only [x_Md_take_70, x_Md_take_71, x_Md_take_72, x_Md_take_75, x_Md_take_78, x_Md_take_79, x_Md_take_80, gO_101_8, oy_q_9, rO_101, Option.toList_some, Option.toList_none, List.cons_append, List.nil_append, List.length_cons, List.length_nil, Nat.reduceAdd, Nat.zero_add, Nat.reduceLeDiff, true_and, if_true]
    have es : ox_pp s V (m + 1) (0, W) = ox_pp s V m (ox_lg 0 (om_mlt s W V), ox_cut (om_mlt s W V)) := rfl
    rw [es] at hL hq
    refine md_fits (by decide) (fun hf => ?_) (fun hf => ?_)
    · rw [f2] at hf
      rw [ox_lg_0 rfl hf, ox_cut_f hf] at hL hq
      simp only [x_Md_take_83, x_Md_take_90, x_Md_take_91, x_Md_take_94, x_Md_take_95, x_Md_take_98, gO_101_8, pO_101_8 114 0 rfl, oy_q_s9, oy_q_9, if_neg n10, if_true, Option.toList_some, Option.toList_none, List.cons_append, List.nil_append, List.length_cons, List.length_nil, Nat.reduceAdd, Nat.zero_add, Nat.reduceLeDiff, true_and]
      simp only [x_Md_take_106, x_Md_take_107, x_Md_take_108, x_Md_take_109, rO_101, Option.toList_some, Option.toList_none, List.cons_append, List.nil_append, List.length_cons, List.length_nil, Nat.reduceAdd, Nat.zero_add, Nat.reduceLeDiff, true_and]
      refine md_copy (by decide) (by decide) (by decide) (fun I2 f3 f4 => ?_)
      simp only [x_Md_take_112, x_Md_take_115, Option.toList_some, Option.toList_none, List.cons_append, List.nil_append, List.length_cons, List.length_nil, Nat.reduceAdd, Nat.zero_add, Nat.reduceLeDiff, true_and]
      refine ⟨⟨by omega, by omega⟩, ih _ (om_mlt s W V) I2 (by omega) (by omega) h3 (ox_W_fr hW1 f3) (by rw [f3.2 0 (by decide)]; exact V1) (by rw [f4]; exact f2) om_mlt_r (by have := ox_cut_m (s := s) sW sV; rw [ox_cut_f hf] at this; exact this) (fun I' g1 g2 => hL I' (ox_bf_tr (ox_bf_tr (ox_bf_f2 f1) (ox_bf_fr f3) (Int.le_refl _) (Int.le_refl _)) g1 (Int.le_refl _) (Int.le_refl _)) g2) (fun I' g1 g2 => hq I' (ox_bf_tr (ox_bf_tr (ox_bf_f2 f1) (ox_bf_fr f3) (Int.le_refl _) (Int.le_refl _)) g1 (Int.le_refl _) (Int.le_refl _)) g2)⟩
    · rw [f2] at hf
      rw [ox_lg_1 hf] at hL
      simp only [x_Md_take_83, x_Md_take_86, x_Md_take_87, x_Md_take_91, x_Md_take_94, x_Md_take_95, x_Md_take_98, x_Md_take_101, x_Md_take_102, x_Md_take_105, gO_101_8, gO_101_3, oy_q_7, hn, pO_101_8 114 1 rfl, oy_q_s9, oy_q_9, if_neg n10, if_true, Option.toList_some, Option.toList_none, List.cons_append, List.nil_append, List.length_cons, List.length_nil, Nat.reduceAdd, Nat.zero_add, Nat.reduceLeDiff, true_and]
      refine hL I1 (ox_bf_f2 f1) hW1 ?_
      rw [ox_pp_m (ox_cut_r om_mlt_r) (ox_cut_m sW sV) sV]
      decide
theorem md_tk_e {sc : Int × (Int → Int)} {d : Nat} {s : Int} {q : Nat → Int} {I : Nat → Int → Int} {Q : Option om_V → om_H → Prop} {n o i j pw e : Int} {y : om_V} {a P W : Int → Int → Int} {sg b : Int} (hs : s = 0 ∨ s = 1) (ho : 0 ≤ o ∧ o < 5) (hi : 0 ≤ i ∧ i ≤ 40) (hp : (pw = 0 ∧ j = i) ∨ (pw = 1 ∧ j = i + 2)) (hW : ox_W I o a P sg b) (rP : om_r31 P) (hT : om_mt I 0 = W) (rW : om_r31 W) (sW : om_su 5 13 W) (hL : ¬ om_ft (om_mlt s P W) → ∀ I', ox_bf o I I' → ox_W I' o a P sg 1 → Q (some (.inl j)) (om_O s (oy_q q o 1), I')) (hq : om_ft (om_mlt s P W) → ∀ I', ox_bf o I I' → ox_W I' o a (om_mlt s P W) sg 1 → Q (some (.inl j)) (om_O s (oy_q q o 0), I')) : om_R sc (d + 5) 114 149 [.inr (.inl 101), .inl i, .inl pw, .inl e, y] [] (om_O s (oy_q q o 0), I) Q := by
  have n10 : ¬ (1 : Int) = 0 := by decide
  have n30 : ¬ (0 : Int) = -3 := by decide
  simp only [x_Md_take_149, x_Md_take_150, x_Md_take_151, x_Md_take_152, x_Md_take_153, x_Md_take_156, gO_101_7, oy_q_8, rO_101, Option.toList_some, Option.toList_none, List.cons_append, List.nil_append, List.length_cons, List.length_nil, Nat.reduceAdd, Nat.zero_add, Nat.reduceLeDiff, true_and]
  refine md_productOf ho ?_
  simp only [x_Md_take_159, rO_101, Option.toList_some, Option.toList_none, List.cons_append, List.nil_append, List.length_cons, List.length_nil, Nat.reduceAdd, Nat.zero_add, Nat.reduceLeDiff, true_and]
  refine md_load (by decide) (by omega) (fun I1 f1 f2 => ?_)
  rw [hW.2.1] at f2
  have hW1 := ox_W_fr hW f1
  have T1 : om_mt I1 0 = W := by rw [f1.2 0 (by decide)]; exact hT
  simp only [x_Md_take_162, x_Md_take_163, x_Md_take_164, x_Md_take_165, x_Md_take_166, x_Md_take_167, rO_101, Option.toList_some, Option.toList_none, List.cons_append, List.nil_append, List.length_cons, List.length_nil, Nat.reduceAdd, Nat.zero_add, Nat.reduceLeDiff, true_and]
  have sP : om_su 5 13 P := hW.2.1 ▸ om_hd_su
  refine md_multiplyTables hs (by decide) (by decide) (by decide) (by decide) (by decide) (by decide) (by decide) (by decide) (by rw [f2]; exact sP) (by rw [f2]; exact rP) (by rw [T1]; exact sW) (by rw [T1]; exact rW) (fun I2 f3 f4 => ?_)
  rw [f2, T1] at f4
  have hW2 := ox_W_f2 hW1 f3
  have fb : ox_bf o I I2 := ox_bf_tr (ox_bf_fr f1) (ox_bf_f2 f3) (Int.le_refl _) (Int.le_refl _)
  have fin : ∀ (tl : Int) (I3 : Nat → Int → Int) (P' : Int → Int → Int), ox_bf o I I3 → ox_W I3 o a P' sg b → (∀ I', ox_bf o I I' → ox_W I' o a P' sg 1 → Q (some (.inl j)) (om_O s (oy_q q o tl), I')) → om_R sc (d + 5) 114 204 [.inr (.inl 101), .inl i, .inl pw, .inl e, y] [] (om_O s (oy_q q o tl), I3) Q := by
    intro tl I3 P' g1 g2 g3
    have w : ∀ I', I' = om_u I3 106 (om_p (I3 106) o 1) → Q (some (.inl j)) (om_O s (oy_q q o tl), I') := by
      intro I' e'
      subst e'
      have u1 : ∀ h, om_hd (om_u I3 106 (om_p (I3 106) o 1)) h = om_hd I3 h := by
        intro h
        funext i k
        unfold om_hd
        rw [om_u_ne (by decide)]
      refine g3 _ ⟨fun b b1 b2 b3 b4 => by rw [om_u_ne b4]; exact g1.1 b b1 b2 b3 b4, fun h hh => by rw [u1]; exact g1.2.1 h hh, fun k hk => ⟨by rw [om_u_ne (by decide)]; exact (g1.2.2 k hk).1, by rw [om_u_eq, om_p_ne (by omega)]; exact (g1.2.2 k hk).2⟩⟩ ⟨by rw [u1]; exact g2.1, by rw [u1]; exact g2.2.1, by rw [om_u_ne (by decide)]; exact g2.2.2.1, by rw [om_u_eq, om_p_eq]⟩
    simp only [x_Md_take_204, x_Md_take_205, x_Md_take_208, x_Md_take_209, x_Md_take_212, x_Md_take_213, x_Md_take_214, x_Md_take_215, gO_101_6, gO_101_7, aO_106, oy_q_8, Option.toList_some, Option.toList_none, List.cons_append, List.nil_append, List.length_cons, List.length_nil, Nat.reduceAdd, Nat.zero_add, Nat.reduceLeDiff, true_and]
    refine ⟨by omega, Or.inr trivial, ?_⟩
    rcases hp with ⟨h1, h2⟩ | ⟨h1, h2⟩
    · rw [if_pos h1]
      simp only [x_Md_take_224, x_Md_take_225]
      rw [h2] at w
      exact w _ rfl
    · rw [if_neg (by omega)]
      simp only [x_Md_take_218, x_Md_take_219, x_Md_take_220, x_Md_take_221, x_Md_take_225]
      rw [h2] at w
      exact ⟨⟨by omega, by omega⟩, w _ rfl⟩
  simp only [x_Md_take_170, x_Md_take_171, x_Md_take_172, x_Md_take_175, x_Md_take_178, x_Md_take_179, x_Md_take_180, x_Md_take_181, x_Md_take_182, x_Md_take_185, gO_101_7, gO_101_8, oy_q_8, oy_q_9, rO_101, Option.toList_some, Option.toList_none, List.cons_append, List.nil_append, List.length_cons, List.length_nil, Nat.reduceAdd, Nat.zero_add, Nat.reduceLeDiff, true_and, if_true]
  refine md_productOf ho ?_
  simp only [x_Md_take_188, rO_101, Option.toList_some, Option.toList_none, List.cons_append, List.nil_append, List.length_cons, List.length_nil, Nat.reduceAdd, Nat.zero_add, Nat.reduceLeDiff, true_and]
  refine md_keep (by decide) (by omega) (fun hf => ?_) (fun hf I3 f5 f6 => ?_)
  · rw [f4] at hf
    simp only [x_Md_take_191, x_Md_take_193, x_Md_take_196, x_Md_take_197, x_Md_take_201, pO_101_8 114 1 rfl, oy_q_s9, Option.toList_some, Option.toList_none, List.cons_append, List.nil_append, List.length_cons, List.length_nil, Nat.reduceAdd, Nat.zero_add, Nat.reduceLeDiff, true_and, if_true]
    exact fin 1 I2 P fb hW2 (hL hf)
  · rw [f4] at hf f6
    simp only [x_Md_take_191, x_Md_take_193, x_Md_take_200, x_Md_take_201, pO_101_8 114 0 rfl, oy_q_s9, Option.toList_some, Option.toList_none, List.cons_append, List.nil_append, List.length_cons, List.length_nil, Nat.reduceAdd, Nat.zero_add, Nat.reduceLeDiff, true_and, if_neg n30]
    refine fin 0 I3 (om_mlt s P W) (ox_bf_tr fb (ox_bf_fh f5 (by omega)) (Int.le_refl _) (Int.le_refl _)) ⟨by rw [f5.2 _ (by omega)]; exact hW2.1, f6, by rw [f5.1 105 (by decide)]; exact hW2.2.2.1, by rw [f5.1 106 (by decide)]; exact hW2.2.2.2⟩ (hq hf)
noncomputable def ox_tk (s : Int) (c : Int → Int) (i : Int) (V : Int → Int → Int) : Int × (Int → Int → Int) := if c i = 94 then ox_pp s V (c (i + 1) - 48).toNat (0, ox_t1 0 0 1) else (0, V)
def ox_tj (c : Int → Int) (i : Int) : Int := if c i = 94 then i + 2 else i
theorem md_take {sc : Int × (Int → Int)} {d : Nat} {s : Int} {q : Nat → Int} {I : Nat → Int → Int} {Q : Option om_V → om_H → Prop} {c : Int → Int} {n o i : Int} {a P V : Int → Int → Int} {sg b : Int} (hs : s = 0 ∨ s = 1) (hc : ox_cc c n) (hT : ox_ty q I c n) (ho : 0 ≤ o ∧ o < 5) (hi : 0 ≤ i ∧ i ≤ n) (hpw : c i = 94 → ox_dg (c (i + 1))) (hW : ox_W I o a P sg b) (rP : om_r31 P) (hV : om_mt I 0 = V) (rV : om_r31 V) (sV : om_su 5 13 V) (hL : ((ox_tk s c i V).1 ≠ 0 ∨ ¬ om_ft (om_mlt s P (ox_tk s c i V).2)) → ∀ I' v b', ox_bf o I I' → ox_W I' o a P sg b' → Q (some (.inl v)) (om_O s (oy_q q o 1), I')) (hq : (ox_tk s c i V).1 = 0 → om_ft (om_mlt s P (ox_tk s c i V).2) → ∀ I', ox_bf o I I' → ox_W I' o a (om_mlt s P (ox_tk s c i V).2) sg 1 → Q (some (.inl (ox_tj c i))) (om_O s (oy_q q o 0), I')) : om_R sc (d + 5) 114 0 [.inr (.inl 101), .inl i, om_un, om_un, om_un] [] (om_O s (oy_q q o 0), I) Q := by
  have n10 : ¬ (1 : Int) = 0 := by decide
  have b1 := hc.1
  have hT' : ox_ty (oy_q q o 0) I c n := hT
  have ez : ∀ i k, om_mt I 0 i k = V i k := fun i k => by rw [hV]
  simp only [x_Md_take_0, x_Md_take_1, x_Md_take_2, rO_101, Option.toList_some, Option.toList_none, List.cons_append, List.nil_append, List.length_cons, List.length_nil, Nat.reduceAdd, Nat.zero_add, Nat.reduceLeDiff, true_and]
  refine md_at0 hc hT' (by omega) ?_
  simp only [x_Md_take_5, x_Md_take_7, Option.toList_some, Option.toList_none, List.cons_append, List.nil_append, List.length_cons, List.length_nil, Nat.reduceAdd, Nat.zero_add, Nat.reduceLeDiff, true_and]
  by_cases h9 : c i = 94
  · rw [if_pos h9]
    have hd := hpw h9
    have e1 : ox_tk s c i V = ox_pp s V (c (i + 1) - 48).toNat (0, ox_t1 0 0 1) := if_pos h9
    have e2 : ox_tj c i = i + 2 := if_pos h9
    rw [e1] at hL hq
    rw [e2] at hq
    simp only [x_Md_take_10, x_Md_take_11, x_Md_take_15, x_Md_take_16, x_Md_take_17, x_Md_take_20, x_Md_take_21, x_Md_take_22, x_Md_take_23, x_Md_take_24, rO_101, Option.toList_some, Option.toList_none, List.cons_append, List.nil_append, List.length_cons, List.length_nil, Nat.reduceAdd, Nat.zero_add, Nat.reduceLeDiff, true_and, if_neg n10]
    refine ⟨⟨by omega, by omega⟩, md_at0 hc hT' (by omega) ?_⟩
    simp only [x_Md_take_27, x_Md_take_29, x_Md_take_30, x_Md_take_34, x_Md_take_35, x_Md_take_36, Option.toList_some, Option.toList_none, List.cons_append, List.nil_append, List.length_cons, List.length_nil, Nat.reduceAdd, Nat.zero_add, Nat.reduceLeDiff, true_and]
    refine ⟨⟨by omega, by omega⟩, ?_⟩
    by_cases n0 : c (i + 1) - 48 = 0
    · rw [n0]
      rw [n0] at hL hq
      have e3 : ox_pp s V (0 : Int).toNat (0, ox_t1 0 0 1) = (0, ox_t1 0 0 1) := rfl
      rw [e3] at hL hq
      simp only [x_Md_take_38, x_Md_take_40, x_Md_take_41, x_Md_take_118, x_Md_take_119, x_Md_take_122, x_Md_take_123, x_Md_take_132, x_Md_take_133, x_Md_take_136, x_Md_take_137, x_Md_take_138, rO_101, Option.toList_some, Option.toList_none, List.cons_append, List.nil_append, List.length_cons, List.length_nil, Nat.reduceAdd, Nat.zero_add, Nat.reduceLeDiff, true_and, if_neg n10, if_true, Int.le_refl]
      refine md_wipe (by decide) (fun I1 f1 f2 => ?_)
      simp only [x_Md_take_141, x_Md_take_142, x_Md_take_143, x_Md_take_144, x_Md_take_145, x_Md_take_146, rO_101, Option.toList_some, Option.toList_none, List.cons_append, List.nil_append, List.length_cons, List.length_nil, Nat.reduceAdd, Nat.zero_add, Nat.reduceLeDiff, true_and]
      refine md_plus (by decide) (by decide) (by decide) (by decide) (by rw [f2]; decide) (fun I2 f3 f4 => ?_)
      have e4 : om_mt I2 0 = ox_t1 0 0 1 := by
        funext i k
        rw [f4 i k, f2]
        rfl
      have fb : ox_bf o I I2 := ox_bf_tr (ox_bf_fr f1) (ox_bf_fr f3) (Int.le_refl _) (Int.le_refl _)
      exact md_tk_e (n := n) hs ho (by omega) (Or.inr ⟨rfl, rfl⟩) (ox_W_fr (ox_W_fr hW f1) f3) rP e4 (ox_t1_r (by decide)) (ox_t1_su (by decide)) (fun hf I' g1 g2 => hL (Or.inr hf) I' _ _ (ox_bf_tr fb g1 (Int.le_refl _) (Int.le_refl _)) g2) (fun hf I' g1 g2 => hq rfl hf I' (ox_bf_tr fb g1 (Int.le_refl _) (Int.le_refl _)) g2)
    · obtain ⟨m, hm⟩ : ∃ m : Nat, c (i + 1) - 48 = (m : Int) + 1 := ⟨(c (i + 1) - 49).toNat, by omega⟩
      have e3 : (c (i + 1) - 48).toNat = m + 1 := by omega
      rw [e3, ox_pp_1 rV sV] at hL hq
      generalize c (i + 1) - 48 = e at hm n0 ⊢
      simp only [x_Md_take_38, x_Md_take_40, x_Md_take_41, x_Md_take_44, x_Md_take_45, x_Md_take_48, x_Md_take_50, x_Md_take_53, x_Md_take_54, x_Md_take_55, x_Md_take_56, rO_101, Option.toList_some, Option.toList_none, List.cons_append, List.nil_append, List.length_cons, List.length_nil, Nat.reduceAdd, Nat.zero_add, Nat.reduceLeDiff, true_and]
      rw [if_neg (by omega), if_neg n10, if_pos trivial]
      refine md_copy (by decide) (by decide) (by decide) (fun I1 f1 f2 => ?_)
      simp only [x_Md_take_59, x_Md_take_112, x_Md_take_115, Option.toList_some, Option.toList_none, List.cons_append, List.nil_append, List.length_cons, List.length_nil, Nat.reduceAdd, Nat.zero_add, Nat.reduceLeDiff, true_and]
      refine ⟨⟨by omega, by omega⟩, ?_⟩
      refine md_tk_l (c := c) (n := n) (K := fun I' W => ox_bf o I I' ∧ ox_W I' o a P sg b ∧ (ox_pp s V m (0, V)).1 = 0 ∧ om_mt I' 3 = (ox_pp s V m (0, V)).2) hs hT.1 ho rV sV (fun I2 W y ⟨g1, g2, g3, g4⟩ => ?_) m (0 + 1) V I1 (by omega) (by omega) (by omega) (ox_W_fr hW f1) (by rw [f1.2 0 (by decide)]; exact hV) (by rw [f2]; exact hV) rV sV (fun I2 g1 g2 g3 => hL (Or.inl g3) I2 _ _ (ox_bf_tr (ox_bf_fr f1) g1 (Int.le_refl _) (Int.le_refl _)) g2) (fun I2 g1 g2 g3 g4 g5 => ⟨ox_bf_tr (ox_bf_fr f1) g1 (Int.le_refl _) (Int.le_refl _), g2, g3, g5⟩)
      simp only [x_Md_take_118, x_Md_take_119, x_Md_take_122, x_Md_take_123, x_Md_take_126, x_Md_take_127, x_Md_take_128, x_Md_take_129, rO_101, Option.toList_some, Option.toList_none, List.cons_append, List.nil_append, List.length_cons, List.length_nil, Nat.reduceAdd, Nat.zero_add, Nat.reduceLeDiff, true_and, if_neg n10]
      rw [if_neg (by omega)]
      refine md_copy (by decide) (by decide) (by decide) (fun I3 f3 f4 => ?_)
      simp only [x_Md_take_132, x_Md_take_133, Option.toList_some, Option.toList_none, List.cons_append, List.nil_append, List.length_cons, List.length_nil, Nat.reduceAdd, Nat.zero_add, Nat.reduceLeDiff, true_and]
      rw [if_neg (by omega)]
      have ok := ox_pp_ok (s := s) (l := 0) sV m (0, V) ⟨Or.inl rfl, fun w => absurd rfl w, rV, sV⟩
      exact md_tk_e (n := n) hs ho (by omega) (Or.inr ⟨rfl, rfl⟩) (ox_W_fr g2 f3) rP (by rw [f4]; exact g4) ok.2.2.1 ok.2.2.2 (fun hf I' k1 k2 => hL (Or.inr hf) I' _ _ (ox_bf_tr (ox_bf_tr g1 (ox_bf_fr f3) (Int.le_refl _) (Int.le_refl _)) k1 (Int.le_refl _) (Int.le_refl _)) k2) (fun hf I' k1 k2 => hq g3 hf I' (ox_bf_tr (ox_bf_tr g1 (ox_bf_fr f3) (Int.le_refl _) (Int.le_refl _)) k1 (Int.le_refl _) (Int.le_refl _)) k2)
  · rw [if_neg h9]
    have e1 : ox_tk s c i V = (0, V) := if_neg h9
    have e2 : ox_tj c i = i := if_neg h9
    rw [e1] at hL hq
    rw [e2] at hq
    simp only [x_Md_take_14, x_Md_take_15, x_Md_take_16, x_Md_take_17, x_Md_take_33, x_Md_take_34, x_Md_take_35, x_Md_take_36, x_Md_take_38, x_Md_take_40, x_Md_take_41, x_Md_take_44, x_Md_take_45, x_Md_take_118, x_Md_take_119, x_Md_take_132, x_Md_take_133, Option.toList_some, Option.toList_none, List.cons_append, List.nil_append, List.length_cons, List.length_nil, Nat.reduceAdd, Nat.zero_add, Nat.reduceLeDiff, true_and, if_neg n10, if_true]
    rw [if_neg (by decide)]
    exact md_tk_e (n := n) hs ho (by omega) (Or.inl ⟨rfl, rfl⟩) hW rP hV rV sV (fun hf I' g1 g2 => hL (Or.inr hf) I' _ _ g1 g2) (fun hf I' g1 g2 => hq rfl hf I' g1 g2)
theorem md_at_l {sc : Int × (Int → Int)} {d : Nat} {s : Int} {q : Nat → Int} {Q : Option om_V → om_H → Prop} {c : Int → Int} {n i0 e : Int} {I : Nat → Int → Int} (hc : ox_cc c n) (hT : ox_ty q I c n) (K : Int → Prop) (hK : ∀ v y, K v → om_R sc (d + 6) 127 101 [.inr (.inl 101), .inl i0, .inl e, .inl v, y] [] (om_O s q, I) Q) : ∀ (f : Nat) (k v : Int), 0 ≤ k → k ≤ n → n ≤ f + k → ox_de c f k = e → (0 ≤ v ∧ v < 31) → K (ox_dv c f k v) → om_R sc (d + 6) 127 70 [.inr (.inl 101), .inl i0, .inl e, .inl v, .inl k] [] (om_O s q, I) Q := by
  have b1 := hc.1
  intro f
  induction f with
  | zero =>
    intro k v h0 h1 h2 he hv hk
    simp only [x_Md_atom_70, x_Md_atom_72, x_Md_atom_73]
    have e1 : ox_de c 0 k = k := rfl
    rw [if_pos (by omega)]
    exact hK _ _ hk
  | succ f ih =>
    intro k v h0 h1 h2 he hv hk
    simp only [x_Md_atom_70, x_Md_atom_72, x_Md_atom_73]
    unfold ox_de at he
    unfold ox_dv at hk
    by_cases hd : ox_dg (c k)
    · rw [if_pos hd] at he hk
      have lt := ox_lt (k := k) hc (by omega)
      have bb := ox_de_b hc f (k + 1) (by omega)
      rw [if_neg (by omega)]
      simp only [x_Md_atom_76, x_Md_atom_78, x_Md_atom_79, x_Md_atom_80, x_Md_atom_81, x_Md_atom_84, x_Md_atom_86, x_Md_atom_87, x_Md_atom_88, x_Md_atom_90, x_Md_atom_91, gO_101_4, aO_104, hT.2 k h0 lt, Option.toList_some, Option.toList_none, List.cons_append, List.nil_append, List.length_cons, List.length_nil, Nat.reduceAdd, Nat.zero_add, Nat.reduceLeDiff, true_and]
      refine ⟨⟨by omega, by omega⟩, by omega, ⟨by omega, by omega⟩, ⟨by omega, by omega⟩, md_mod ?_⟩
      simp only [x_Md_atom_94, x_Md_atom_95, x_Md_atom_98, Option.toList_some, Option.toList_none, List.cons_append, List.nil_append, List.length_cons, List.length_nil, Nat.reduceAdd, Nat.zero_add, Nat.reduceLeDiff, true_and]
      exact ⟨⟨by omega, by omega⟩, ih _ _ (by omega) (by omega) (by omega) he (by omega) hk⟩
    · rw [if_neg hd] at he hk
      rw [if_pos (by omega)]
      exact hK _ _ hk
theorem md_atom {sc : Int × (Int → Int)} {d : Nat} {s : Int} {q : Nat → Int} {I : Nat → Int → Int} {Q : Option om_V → om_H → Prop} {c : Int → Int} {n o i j : Int} {a P V : Int → Int → Int} {sg b : Int} (hs : s = 0 ∨ s = 1) (hc : ox_cc c n) (hT : ox_ty q I c n) (ho : 0 ≤ o ∧ o < 5) (hi : 0 ≤ i ∧ i < n) (hr : (ox_dg (c i) ∧ j = ox_de c 40 i ∧ V = ox_t1 0 0 (ox_dv c 40 i 0)) ∨ (c i = 120 ∧ j = i + 1 ∧ V = ox_t1 0 1 1) ∨ (c i = 84 ∧ j = i + 1 ∧ V = ox_t1 1 0 1)) (hpw : c j = 94 → ox_dg (c (j + 1))) (hW : ox_W I o a P sg b) (rP : om_r31 P) (hL : ((ox_tk s c j V).1 ≠ 0 ∨ ¬ om_ft (om_mlt s P (ox_tk s c j V).2)) → ∀ I' v b', ox_bf o I I' → ox_W I' o a P sg b' → Q (some (.inl v)) (om_O s (oy_q q o 1), I')) (hq : (ox_tk s c j V).1 = 0 → om_ft (om_mlt s P (ox_tk s c j V).2) → ∀ I', ox_bf o I I' → ox_W I' o a (om_mlt s P (ox_tk s c j V).2) sg 1 → Q (some (.inl (ox_tj c j))) (om_O s (oy_q q o 0), I')) : om_R sc (d + 6) 127 0 [.inr (.inl 101), .inl i, om_un, om_un, om_un] [] (om_O s (oy_q q o 0), I) Q := by
  have n10 : ¬ (1 : Int) = 0 := by decide
  have b1 := hc.1
  simp only [x_Md_atom_0, x_Md_atom_1, x_Md_atom_2, rO_101, Option.toList_some, Option.toList_none, List.cons_append, List.nil_append, List.length_cons, List.length_nil, Nat.reduceAdd, Nat.zero_add, Nat.reduceLeDiff, true_and]
  refine md_wipe (by decide) (fun I1 f1 f2 => ?_)
  have hT1 : ox_ty (oy_q q o 0) I1 c n := ⟨hT.1, fun k p p' => by rw [f1.1 104 (by decide)]; exact hT.2 k p p'⟩
  have hT1' : ox_ty q I1 c n := hT1
  have fin : ∀ (Q' : Option om_V → om_H → Prop) (I2 : Nat → Int → Int), (∀ (v : Int) h, Q (some (.inl v)) h → Q' (some (.inl v)) h) → om_fr I1 I2 0 → om_mt I2 0 = V → (0 ≤ j ∧ j ≤ n) → om_r31 V → om_su 5 13 V → om_R sc (d + 5) 114 0 [.inr (.inl 101), .inl j, om_un, om_un, om_un] [] (om_O s (oy_q q o 0), I2) Q' := by
    intro Q' I2 hQ f3 f4 hj rV sV
    have fb : ox_bf o I I2 := ox_bf_tr (ox_bf_fr f1) (ox_bf_fr f3) (Int.le_refl _) (Int.le_refl _)
    exact md_take hs hc ⟨hT.1, fun k p p' => by rw [f3.1 104 (by decide)]; exact hT1.2 k p p'⟩ ho hj hpw (ox_W_fr (ox_W_fr hW f1) f3) rP f4 rV sV (fun w I' v b' g1 g2 => hQ _ _ (hL w I' v b' (ox_bf_tr fb g1 (Int.le_refl _) (Int.le_refl _)) g2)) (fun w w' I' g1 g2 => hQ _ _ (hq w w' I' (ox_bf_tr fb g1 (Int.le_refl _) (Int.le_refl _)) g2))
  simp only [x_Md_atom_5, x_Md_atom_6, x_Md_atom_7, rO_101, Option.toList_some, Option.toList_none, List.cons_append, List.nil_append, List.length_cons, List.length_nil, Nat.reduceAdd, Nat.zero_add, Nat.reduceLeDiff, true_and]
  refine md_isDigit hc hT1 (by omega) (fun hd => ?_) (fun hd => ?_)
  · simp only [x_Md_atom_10, x_Md_atom_59, x_Md_atom_60, x_Md_atom_61, rO_101, Option.toList_some, Option.toList_none, List.cons_append, List.nil_append, List.length_cons, List.length_nil, Nat.reduceAdd, Nat.zero_add, Nat.reduceLeDiff, true_and, if_neg n10]
    obtain ⟨_, ej, eV⟩ : ox_dg (c i) ∧ j = ox_de c 40 i ∧ V = ox_t1 0 0 (ox_dv c 40 i 0) := by
      rcases hr with h | h | h
      · exact h
      · omega
      · omega
    refine md_numberEnd hc hT1 (by omega) (by omega) ?_
    rw [← ej]
    simp only [x_Md_atom_64, x_Md_atom_65, x_Md_atom_66, x_Md_atom_67, x_Md_atom_68, Option.toList_some, Option.toList_none, List.cons_append, List.nil_append, List.length_cons, List.length_nil, Nat.reduceAdd, Nat.zero_add, Nat.reduceLeDiff, true_and]
    refine md_at_l hc hT1 (fun v => v = ox_dv c 40 i 0) (fun v y hv => ?_) 40 i 0 (by omega) (by omega) (by omega) ej.symm (by decide) rfl
    have vb := ox_dv_b (c := c) 40 i 0 (by decide)
    subst hv
    simp only [x_Md_atom_101, x_Md_atom_102, x_Md_atom_103, x_Md_atom_104, x_Md_atom_105, x_Md_atom_106, rO_101, Option.toList_some, Option.toList_none, List.cons_append, List.nil_append, List.length_cons, List.length_nil, Nat.reduceAdd, Nat.zero_add, Nat.reduceLeDiff, true_and]
    refine md_plus (by decide) (by decide) (by decide) (by omega) (by rw [f2]; decide) (fun I2 f3 f4 => ?_)
    simp only [x_Md_atom_109, x_Md_atom_110, x_Md_atom_111, rO_101, Option.toList_some, Option.toList_none, List.cons_append, List.nil_append, List.length_cons, List.length_nil, Nat.reduceAdd, Nat.zero_add, Nat.reduceLeDiff, true_and]
    have db := ox_de_b hc 40 i (by omega)
    refine fin _ I2 (fun v h w => ?_) f3 ?_ (by omega) (eV ▸ ox_t1_r vb) (eV ▸ ox_t1_su (by decide))
    · simp only [x_Md_atom_114, Option.toList_some, Option.toList_none, List.cons_append, List.nil_append, List.length_cons, List.length_nil, Nat.reduceAdd, Nat.zero_add, Nat.reduceLeDiff, true_and]
      exact w
    · rw [eV]
      funext i' k'
      rw [f4 i' k', f2]
      unfold ox_t1
      by_cases e : i' = 0 ∧ k' = 0
      · rw [if_pos e, if_pos e]
        show (0 + ox_dv c 40 i 0) % 31 = ox_dv c 40 i 0
        omega
      · rw [if_neg e, if_neg e]
  · simp only [x_Md_atom_10, x_Md_atom_13, x_Md_atom_14, x_Md_atom_15, x_Md_atom_16, x_Md_atom_19, x_Md_atom_20, x_Md_atom_21, x_Md_atom_23, gO_101_4, aO_104, hT1.2 i hi.1 hi.2, Option.toList_some, Option.toList_none, List.cons_append, List.nil_append, List.length_cons, List.length_nil, Nat.reduceAdd, Nat.zero_add, Nat.reduceLeDiff, true_and, if_true]
    refine ⟨by omega, ?_⟩
    by_cases h8 : c i = 84
    · obtain ⟨_, ej, eV⟩ : c i = 84 ∧ j = i + 1 ∧ V = ox_t1 1 0 1 := by
        rcases hr with h | h | h
        · omega
        · omega
        · exact h
      simp only [x_Md_atom_26, x_Md_atom_27, x_Md_atom_31, x_Md_atom_32, x_Md_atom_35, x_Md_atom_36, x_Md_atom_37, x_Md_atom_39, x_Md_atom_42, x_Md_atom_43, x_Md_atom_47, x_Md_atom_48, gO_101_4, aO_104, hT1.2 i hi.1 hi.2, rO_101, Option.toList_some, Option.toList_none, List.cons_append, List.nil_append, List.length_cons, List.length_nil, Nat.reduceAdd, Nat.zero_add, Nat.reduceLeDiff, true_and, if_pos h8]
      refine ⟨by omega, ?_⟩
      refine md_plus (by decide) (by decide) (by decide) (by decide) (by rw [f2]; decide) (fun I2 f3 f4 => ?_)
      simp only [x_Md_atom_51, x_Md_atom_52, x_Md_atom_53, x_Md_atom_54, x_Md_atom_55, rO_101, Option.toList_some, Option.toList_none, List.cons_append, List.nil_append, List.length_cons, List.length_nil, Nat.reduceAdd, Nat.zero_add, Nat.reduceLeDiff, true_and]
      rw [← ej]
      refine ⟨⟨by omega, by omega⟩, fin _ I2 (fun v h w => ?_) f3 ?_ (by omega) (eV ▸ ox_t1_r (by decide)) (eV ▸ ox_t1_su (by decide))⟩
      · simp only [x_Md_atom_58, Option.toList_some, Option.toList_none, List.cons_append, List.nil_append, List.length_cons, List.length_nil, Nat.reduceAdd, Nat.zero_add, Nat.reduceLeDiff, true_and]
        exact w
      · rw [eV]
        funext i' k'
        rw [f4 i' k', f2]
        rfl
    · obtain ⟨_, ej, eV⟩ : c i = 120 ∧ j = i + 1 ∧ V = ox_t1 0 1 1 := by
        rcases hr with h | h | h
        · omega
        · exact h
        · omega
      simp only [x_Md_atom_30, x_Md_atom_31, x_Md_atom_32, x_Md_atom_35, x_Md_atom_36, x_Md_atom_37, x_Md_atom_39, x_Md_atom_46, x_Md_atom_47, x_Md_atom_48, gO_101_4, aO_104, hT1.2 i hi.1 hi.2, rO_101, Option.toList_some, Option.toList_none, List.cons_append, List.nil_append, List.length_cons, List.length_nil, Nat.reduceAdd, Nat.zero_add, Nat.reduceLeDiff, true_and, if_neg h8]
      refine ⟨by omega, ?_⟩
      refine md_plus (by decide) (by decide) (by decide) (by decide) (by rw [f2]; decide) (fun I2 f3 f4 => ?_)
      simp only [x_Md_atom_51, x_Md_atom_52, x_Md_atom_53, x_Md_atom_54, x_Md_atom_55, rO_101, Option.toList_some, Option.toList_none, List.cons_append, List.nil_append, List.length_cons, List.length_nil, Nat.reduceAdd, Nat.zero_add, Nat.reduceLeDiff, true_and]
      rw [← ej]
      refine ⟨⟨by omega, by omega⟩, fin _ I2 (fun v h w => ?_) f3 ?_ (by omega) (eV ▸ ox_t1_r (by decide)) (eV ▸ ox_t1_su (by decide))⟩
      · simp only [x_Md_atom_58, Option.toList_some, Option.toList_none, List.cons_append, List.nil_append, List.length_cons, List.length_nil, Nat.reduceAdd, Nat.zero_add, Nat.reduceLeDiff, true_and]
        exact w
      · rw [eV]
        funext i' k'
        rw [f4 i' k', f2]
        rfl
