/-! the reference's work: products, sums, read -/
theorem ox_pr_e {s : Int} {c : Int → Int} {A : Int → Int → Option ox_X} {f : Nat} {i l : Int} {P : Int → Int → Int} {r' : ox_X} (e : ox_pw s c A i l = some r') : ox_pr s c A (f + 1) i l P = if c r'.1 = 42 then ox_pr s c A f (r'.1 + 1) (ox_lg r'.2.1 (om_mlt s P r'.2.2)) (ox_cut (om_mlt s P r'.2.2)) else if ox_st (c r'.1) then ox_pr s c A f r'.1 (ox_lg r'.2.1 (om_mlt s P r'.2.2)) (ox_cut (om_mlt s P r'.2.2)) else some (r'.1, ox_lg r'.2.1 (om_mlt s P r'.2.2), ox_cut (om_mlt s P r'.2.2)) := by
  conv => lhs; unfold ox_pr
  rw [e]
theorem ox_su_e {s : Int} {c : Int → Int} {A : Int → Int → Option ox_X} {f : Nat} {t i l : Int} {a : Int → Int → Int} {r' : ox_X} (e : ox_pr s c A 41 i l (ox_t1 0 0 1) = some r') : ox_su s c A (f + 1) t i l a = if ox_sg (c r'.1) then ox_su s c A f (ox_tm (c r'.1)) (r'.1 + 1) r'.2.1 (om_ad a r'.2.2 t) else some (r'.1, r'.2.1, om_ad a r'.2.2 t) := by
  conv => lhs; unfold ox_su
  rw [e]
theorem wk_pr {sc : Int × (Int → Int)} {d : Nat} {s : Int} {q : Nat → Int} {Q : Option om_V → om_H → Prop} {c : Int → Int} {n o : Int} (hc : ox_cc c n) {A : Int → Int → Option ox_X} (oA : ox_okA n A) (hA : ox_wP sc d s q Q n c o (ox_pw s c A)) : ∀ (f : Nat) (i : Int) (I : Nat → Int → Int) (a P : Int → Int → Int) (sg t b : Int) (r : ox_X), 0 ≤ i → i ≤ n → ox_ty q I c n → ox_W I o a P sg b → ox_sr sg t → om_r31 a → om_r31 P → ox_pr s c A f i 0 P = some r → (r.2.1 ≠ 0 → ∀ I' lv, ox_bf 0 I I' → Q none (om_O s (oy_q q lv 1), I')) → (r.2.1 = 0 → ∀ I', ox_bf o I I' → ox_W I' o a r.2.2 sg 1 → ox_Wk sc (d + 7) s q Q I' r.1 o) → 0 ≤ o → ox_Wk sc (d + 7) s q Q I i o := by
  intro f
  induction f with
  | zero => intro i I a P sg t b r h0 h1 hT hW hst ra rP hr; exact absurd hr (by simp [ox_pr])
  | succ f ih =>
    intro i I a P sg t b r h0 h1 hT hW hst ra rP hr hL hK ho
    have sP : om_su 5 13 P := hW.2.1 ▸ om_hd_su
    cases e : ox_pw s c A i 0 with
    | none =>
      unfold ox_pr at hr
      rw [e] at hr
      exact absurd hr (by simp)
    | some r' =>
      rw [ox_pr_e e] at hr
      obtain ⟨k1, k2, k3, k4, k5, k6⟩ := ox_pw_ok hc oA i 0 r' h0 h1 (Or.inl rfl) e
      have sC := ox_cut_m (s := s) sP k6
      refine hA i I a P sg t b r' h0 h1 hT hW hst ra rP e (fun w => hL ?_) (fun w I1 f1 f2 => ?_)
      · by_cases h4 : c r'.1 = 42
        · rw [if_pos h4] at hr
          have lt := ox_lt (k := r'.1) hc (by omega)
          have := (ox_pr_ok hc oA f _ _ _ r (by omega) (by omega) ox_lg_b sC hr).1.2.2.2.1 w
          omega
        · rw [if_neg h4] at hr
          by_cases h5 : ox_st (c r'.1)
          · rw [if_pos h5] at hr
            have := (ox_pr_ok hc oA f _ _ _ r (by omega) (by omega) ox_lg_b sC hr).1.2.2.2.1 w
            omega
          · rw [if_neg h5] at hr
            injection hr with hr
            subst hr
            exact w
      · have z := ox_lg_z w
        rw [w, ox_cut_f z.2] at hr
        have hT1 := ox_ty_m hT f1
        by_cases h4 : c r'.1 = 42
        · rw [if_pos h4] at hr
          have lt := ox_lt (k := r'.1) hc (by omega)
          exact wk_star hc hT1 (by omega) lt h4 (ih _ I1 a _ sg t 1 r (by omega) (by omega) hT1 f2 hst ra om_mlt_r hr (fun w I' lv g1 => hL w I' lv (ox_bf_tr f1 g1 ho (Int.le_refl _))) (fun w I' g1 g2 => hK w I' (ox_bf_tr f1 g1 (Int.le_refl _) (Int.le_refl _)) g2) ho)
        · rw [if_neg h4] at hr
          by_cases h5 : ox_st (c r'.1)
          · rw [if_pos h5] at hr
            exact ih _ I1 a _ sg t 1 r (by omega) (by omega) hT1 f2 hst ra om_mlt_r hr (fun w I' lv g1 => hL w I' lv (ox_bf_tr f1 g1 ho (Int.le_refl _))) (fun w I' g1 g2 => hK w I' (ox_bf_tr f1 g1 (Int.le_refl _) (Int.le_refl _)) g2) ho
          · rw [if_neg h5] at hr
            injection hr with hr
            subst hr
            exact hK rfl I1 f1 f2
theorem wk_su {sc : Int × (Int → Int)} {d : Nat} {s : Int} {q : Nat → Int} {Q : Option om_V → om_H → Prop} {c : Int → Int} {n o : Int} (hc : ox_cc c n) (ho : 0 ≤ o ∧ o < 5) {A : Int → Int → Option ox_X} (oA : ox_okA n A) (hA : ox_wP sc d s q Q n c o (ox_pw s c A)) : ∀ (f : Nat) (t i : Int) (I : Nat → Int → Int) (a : Int → Int → Int) (sg : Int) (r : ox_X), 0 ≤ i → i ≤ n → ox_ty q I c n → ox_W I o a (ox_t1 0 0 1) sg 0 → ox_sr sg t → om_r31 a → ox_su s c A f t i 0 a = some r → (r.2.1 ≠ 0 → ∀ I' lv, ox_bf 0 I I' → Q none (om_O s (oy_q q lv 1), I')) → (r.2.1 = 0 → ∀ I' a P sg t, ox_bf o I I' → ox_W I' o a P sg 1 → ox_sr sg t → om_r31 a → om_r31 P → om_ad a P t = r.2.2 → ox_Wk sc (d + 7) s q Q I' r.1 o) → ox_Wk sc (d + 7) s q Q I i o := by
  intro f
  induction f with
  | zero => intro t i I a sg r h0 h1 hT hW hst ra hr; exact absurd hr (by simp [ox_su])
  | succ f ih =>
    intro t i I a sg r h0 h1 hT hW hst ra hr hL hK
    have sa : om_su 5 13 a := hW.1 ▸ om_hd_su
    cases e : ox_pr s c A 41 i 0 (ox_t1 0 0 1) with
    | none =>
      unfold ox_su at hr
      rw [e] at hr
      exact absurd hr (by simp)
    | some r' =>
      rw [ox_su_e e] at hr
      obtain ⟨⟨k1, k2, k3, k4, k5, k6⟩, _⟩ := ox_pr_ok hc oA 41 i 0 _ r' h0 h1 (Or.inl rfl) (ox_t1_su (by decide)) e
      refine wk_pr hc oA hA 41 i I a _ sg t 0 r' h0 h1 hT hW hst ra (ox_t1_r (by decide)) e (fun w => hL ?_) (fun w I1 f1 f2 => ?_) ho.1
      · by_cases h4 : ox_sg (c r'.1)
        · rw [if_pos h4] at hr
          have lt := ox_lt (k := r'.1) hc (by omega)
          have := (ox_su_ok hc oA f _ _ _ _ r (by omega) (by omega) k3 (ox_ad_su sa k6) hr).1.2.2.2.1 w
          omega
        · rw [if_neg h4] at hr
          injection hr with hr
          subst hr
          exact w
      · have hT1 := ox_ty_m hT f1
        by_cases h4 : ox_sg (c r'.1)
        · rw [if_pos h4, w] at hr
          have lt := ox_lt (k := r'.1) hc (by omega)
          refine wk_sign hc hT1 ho (by omega) lt h4 f2 hst ra k5 (Or.inr ⟨rfl, rfl⟩) (fun I2 sg' f3 f4 f5 => ?_)
          have fb := ox_bf_tr f1 f3 (Int.le_refl _) (Int.le_refl _)
          exact ih _ _ I2 _ sg' r (by omega) (by omega) (ox_ty_m hT1 f3) f4 f5 ox_ad_r hr (fun w I' lv g1 => hL w I' lv (ox_bf_tr fb g1 ho.1 (Int.le_refl _))) (fun w I' a P sg t g1 => hK w I' a P sg t (ox_bf_tr fb g1 (Int.le_refl _) (Int.le_refl _)))
        · rw [if_neg h4] at hr
          injection hr with hr
          subst hr
          exact hK w I1 a _ sg t f1 f2 hst ra k5 rfl
theorem wk_bd {sc : Int × (Int → Int)} {d : Nat} {s : Int} {q : Nat → Int} {Q : Option om_V → om_H → Prop} {c : Int → Int} {n : Int} {m o : Nat} (hs : s = 0 ∨ s = 1) (hc : ox_cc c n) (ho : o + m = 4) (hS : ∀ m', m = m' + 1 → ox_wS sc d s q Q n c ((o + 1 : Nat) : Int) (ox_S s c m')) : ox_wS sc d s q Q n c o (ox_S s c m) := by
  have b1 := hc.1
  rw [ox_S_e]
  have oA := ox_ra_ok hc (ox_lo_ok (s := s) hc m)
  have hA := wk_pw (d := d) (q := q) (Q := Q) hs hc ho hS
  have rz : om_r31 (fun _ _ => 0) := fun _ _ => (by decide : (0 : Int) ≤ 0 ∧ (0 : Int) < 31)
  intro i I r h0 h1 hT hW hr hL hK
  unfold ox_bd at hr
  by_cases h4 : ox_sg (c i)
  · rw [if_pos h4] at hr
    have lt := ox_lt (k := i) hc (by omega)
    refine wk_sign hc hT (by omega) h0 lt h4 hW (Or.inl ⟨rfl, rfl⟩) rz (ox_t1_r (by decide)) (Or.inl ⟨rfl, rfl⟩) (fun I1 sg' f1 f2 f3 => ?_)
    exact wk_su hc (by omega) oA hA 41 _ _ I1 _ sg' r (by omega) (by omega) (ox_ty_m hT f1) f2 f3 rz hr (fun w I' lv g1 => hL w I' lv (ox_bf_tr f1 g1 (by omega) (Int.le_refl _))) (fun w I' a P sg t g1 => hK w I' a P sg t (ox_bf_tr f1 g1 (Int.le_refl _) (Int.le_refl _)))
  · rw [if_neg h4] at hr
    exact wk_su hc (by omega) oA hA 41 _ _ I _ 1 r h0 h1 hT hW (Or.inl ⟨rfl, rfl⟩) rz hr hL hK
theorem wk_S {sc : Int × (Int → Int)} {d : Nat} {s : Int} {q : Nat → Int} {Q : Option om_V → om_H → Prop} {c : Int → Int} {n : Int} (hs : s = 0 ∨ s = 1) (hc : ox_cc c n) : ∀ m o : Nat, o + m = 4 → ox_wS sc d s q Q n c o (ox_S s c m)
  | 0, o, e => wk_bd hs hc e (fun m' h => by omega)
  | m + 1, o, e => wk_bd hs hc e (fun m' h => by
    have : m' = m := by omega
    subst this
    exact wk_S hs hc m' (o + 1) (by omega))
theorem md_work {sc : Int × (Int → Int)} {d : Nat} {s : Int} {q : Nat → Int} {I : Nat → Int → Int} {Q : Option om_V → om_H → Prop} {c : Int → Int} {n : Int} {r : ox_X} (hs : s = 0 ∨ s = 1) (hc : ox_cc c n) (hT : ox_ty q I c n) (hr : ox_S s c 4 0 0 = some r) (hn : r.1 = n) (hL : r.2.1 ≠ 0 → ∀ I' lv, ox_bf 0 I I' → Q none (om_O s (oy_q q lv 1), I')) (hK : r.2.1 = 0 → ∀ I', ox_bf 0 I I' → om_hd I' 8 = r.2.2 → Q none (om_O s (oy_q q 0 0), I')) : om_R sc (d + 7) 104 0 [.inr (.inl 101), om_un, om_un] [] (om_O s q, I) Q := by
  have b1 := hc.1
  have e0 : om_qs (om_qs q 8 0) 9 0 = oy_q q 0 0 := rfl
  simp only [x_Md_work_0, x_Md_work_1, x_Md_work_2, x_Md_work_5, x_Md_work_6, x_Md_work_7, x_Md_work_10, x_Md_work_11, pO_101_7 104 0 rfl, pO_101_8 104 0 rfl, e0, rO_101, Option.toList_some, Option.toList_none, List.cons_append, List.nil_append, List.length_cons, List.length_nil, Nat.reduceAdd, Nat.zero_add, Nat.reduceLeDiff, true_and]
  refine md_open (by decide) (fun I1 f1 f2 => ?_)
  simp only [x_Md_work_14, x_Md_work_15, Option.toList_some, Option.toList_none, List.cons_append, List.nil_append, List.length_cons, List.length_nil, Nat.reduceAdd, Nat.zero_add, Nat.reduceLeDiff, true_and]
  have h := wk_S (sc := sc) (d := d) (q := q) (Q := Q) hs hc 4 0 rfl 0 I1 r (by omega) (by omega) (ox_ty_m hT f1) f2 hr (fun w I' lv g1 => hL w I' lv (ox_bf_tr f1 g1 (Int.le_refl _) (Int.le_refl _))) (fun w I2 a P sg t g1 g2 g3 g4 g5 g6 => ?_)
  · exact h _
  · refine wk_end (ox_ty_m (ox_ty_m hT f1) g1) (by omega) (by decide) g2 g3 g4 g5 (fun I3 k1 k2 => hK w I3 (ox_bf_tr f1 (ox_bf_tr g1 k1 (Int.le_refl _) (Int.le_refl _)) (Int.le_refl _) (Int.le_refl _)) ?_)
    have := k2.1
    rw [g6] at this
    exact this
theorem md_read {sc : Int × (Int → Int)} {d : Nat} {s : Int} {q : Nat → Int} {I : Nat → Int → Int} {Q : Option om_V → om_H → Prop} {c : Int → Int} {n r : Int} (hs : s = 0 ∨ s = 1) (hc : ox_cc c n) (hT : ox_ty q I c n) (hb : ¬ (0 ≤ r ∧ r < 8) → Q (some (.inl (-1))) (om_O s q, I)) (h2 : 0 ≤ r ∧ r < 8 → ox_f2 s c n → Q (some (.inl (-2))) (om_O s q, I)) (h3 : 0 ≤ r ∧ r < 8 → ox_f3 s c n → ∀ I' lv, ox_bf 0 I I' → Q (some (.inl (-3))) (om_O s (oy_q q lv 1), I')) (h0 : 0 ≤ r ∧ r < 8 → ∀ V, ox_f0 s c n V → ∀ I', (∀ b, b ≠ 102 → b ≠ 103 → b ≠ 105 → b ≠ 106 → I' b = I b) → (∀ h, h < 8 → h ≠ r → om_hd I' h = om_hd I h) → om_hd I' r = V → Q (some (.inl (om_or 5 13 V + 1))) (om_O s (oy_q q 0 0), I')) : om_R sc (d + 8) 98 0 [.inr (.inl 101), .inl r] [] (om_O s q, I) Q := by
  have n10 : ¬ (1 : Int) = 0 := by decide
  have b1 := hc.1
  simp only [x_Md_read_0, x_Md_read_1, Option.toList_some, Option.toList_none, List.cons_append, List.nil_append, List.length_cons, List.length_nil, Nat.reduceAdd, Nat.zero_add, Nat.reduceLeDiff, true_and]
  refine md_isRegister (fun hr => ?_) (fun hr => ?_)
  · simp only [x_Md_read_4, x_Md_read_9, x_Md_read_10, rO_101, Option.toList_some, Option.toList_none, List.cons_append, List.nil_append, List.length_cons, List.length_nil, Nat.reduceAdd, Nat.zero_add, Nat.reduceLeDiff, true_and, if_neg n10]
    refine md_isSum hc hT (fun hN => ?_) (fun ⟨x, e1, e2⟩ => ?_)
    · simp only [x_Md_read_13, x_Md_read_16, x_Md_read_18, Option.toList_some, Option.toList_none, List.cons_append, List.nil_append, List.length_cons, List.length_nil, Nat.reduceAdd, Nat.zero_add, Nat.reduceLeDiff, true_and, if_true]
      exact h2 hr hN
    · have ok := ox_S_ok (s := s) hc 4 0 0 x (by omega) (by omega) (Or.inl rfl) e1
      simp only [x_Md_read_13, x_Md_read_19, x_Md_read_20, rO_101, Option.toList_some, Option.toList_none, List.cons_append, List.nil_append, List.length_cons, List.length_nil, Nat.reduceAdd, Nat.zero_add, Nat.reduceLeDiff, true_and, if_neg n10]
      refine md_work hs hc hT e1 e2 (fun w I1 lv f1 => ?_) (fun w I1 f1 f2 => ?_)
      · simp only [x_Md_read_23, x_Md_read_24, x_Md_read_27, x_Md_read_30, x_Md_read_32, gO_101_8, oy_q_9, Option.toList_some, Option.toList_none, List.cons_append, List.nil_append, List.length_cons, List.length_nil, Nat.reduceAdd, Nat.zero_add, Nat.reduceLeDiff, true_and, if_neg n10]
        exact h3 hr ⟨x, e1, e2, w⟩ I1 lv f1
      · simp only [x_Md_read_23, x_Md_read_24, x_Md_read_27, x_Md_read_33, x_Md_read_34, x_Md_read_35, x_Md_read_36, x_Md_read_37, gO_101_8, oy_q_9, rO_101, Option.toList_some, Option.toList_none, List.cons_append, List.nil_append, List.length_cons, List.length_nil, Nat.reduceAdd, Nat.zero_add, Nat.reduceLeDiff, true_and, if_true]
        refine md_sumOf (by decide) ?_
        simp only [x_Md_read_40, rO_101, Option.toList_some, Option.toList_none, List.cons_append, List.nil_append, List.length_cons, List.length_nil, Nat.reduceAdd, Nat.zero_add, Nat.reduceLeDiff, true_and]
        refine md_load (by decide) (by decide) (fun I2 f3 f4 => ?_)
        have f4' : om_mt I2 0 = x.2.2 := by rw [f4]; exact f2
        simp only [x_Md_read_43, x_Md_read_44, x_Md_read_45, x_Md_read_46, rO_101, Option.toList_some, Option.toList_none, List.cons_append, List.nil_append, List.length_cons, List.length_nil, Nat.reduceAdd, Nat.zero_add, Nat.reduceLeDiff, true_and]
        refine md_store (by decide) (by omega) (fun I3 f5 f6 => ?_)
        have e3 : om_hd I3 r = x.2.2 := by
          funext i k
          rw [f6 i k, f4']
          split
          · rfl
          · exact (ok.2.2.2.2.2 i k (by omega)).symm
        have e4 : om_mt I3 0 = x.2.2 := by
          rw [om_fh_mt f5]
          exact f4'
        simp only [x_Md_read_49, x_Md_read_50, x_Md_read_51, rO_101, Option.toList_some, Option.toList_none, List.cons_append, List.nil_append, List.length_cons, List.length_nil, Nat.reduceAdd, Nat.zero_add, Nat.reduceLeDiff, true_and]
        refine md_orderOf (by decide) ?_
        rw [e4, om_or_e ok.2.2.2.2.2 (by omega) (by omega) (by omega)]
        have ob := om_or_b (A := x.2.2)
        simp only [x_Md_read_54, x_Md_read_55, x_Md_read_56, Option.toList_some, Option.toList_none, List.cons_append, List.nil_append, List.length_cons, List.length_nil, Nat.reduceAdd, Nat.zero_add, Nat.reduceLeDiff, true_and]
        refine ⟨⟨by omega, by omega⟩, h0 hr _ ⟨x, e1, e2, w, rfl⟩ I3 (fun b b0 b1 b2 b3 => by rw [f5.1 b b0, f3.1 b b1, f1.1 b b0 b1 b2 b3]) (fun h hh hne => by rw [f5.2 h hne, om_fr_hd f3, f1.2.1 h (by omega)]) e3⟩
  · simp only [x_Md_read_4, x_Md_read_7, x_Md_read_8, Option.toList_some, Option.toList_none, List.cons_append, List.nil_append, List.length_cons, List.length_nil, Nat.reduceAdd, Nat.zero_add, Nat.reduceLeDiff, true_and, if_true]
    exact hb hr
