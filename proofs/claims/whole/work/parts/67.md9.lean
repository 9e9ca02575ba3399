/-! the reference's solve: the call -/
def on_fs (I I' : Nat → Int → Int) : Prop := ∀ b, b ≠ 103 → b < 109 ∨ 113 < b → I' b = I b
theorem on_fs_tr {I I1 I2 : Nat → Int → Int} (h1 : on_fs I I1) (h2 : on_fs I1 I2) : on_fs I I2 := fun b a c => by rw [h2 b a c, h1 b a c]
theorem on_mt_c {I I' : Nat → Int → Int} {t : Int} (h : I' 103 = I 103) : om_mt I' t = om_mt I t := by
  funext a b
  unfold om_mt
  rw [h]
abbrev on_sI (M : Int → Int → Int) (j n : Nat) (I : Nat → Int → Int) : Prop := on_st M j n (fun r k => I 109 (25 * r + k)) (fun r k => I 110 (13 * r + k)) (I 111)
theorem on_sI_c {M : Int → Int → Int} {j n : Nat} {I I' : Nat → Int → Int} (h : on_sI M j n I) (e : ∀ b, b = 109 ∨ b = 110 ∨ b = 111 → I' b = I b) : on_sI M j n I' := by
  unfold on_sI
  rw [e 109 (by decide), e 110 (by decide), e 111 (by decide)]
  exact h
theorem md_isI_l {sc : Int × (Int → Int)} {d : Nat} {s : Int} {q : Nat → Int} {Q : Option om_V → om_H → Prop} {g dd : Int} (hd : 0 ≤ dd ∧ dd ≤ 12) {A : Int → Int → Int} (suA : om_su 5 13 A) (rA : om_r31 A) (K : Nat → (Nat → Int → Int) → Prop) (hK : ∀ n' I' x, K n' I' → om_R sc (d + 6) 143 46 [.inr (.inl 101), .inl g, .inl dd, .inl (dd + 1), x] [] (om_O s (om_qs q 12 n'), I') Q) : ∀ (m j n : Nat) (x : om_V) (I : Nat → Int → Int), (j : Int) + m = dd + 1 → om_mt I 0 = A → on_sI (on_M s A) j n I → (∀ I' n', on_fs I I' → om_mt I' 0 = A → on_sI (on_M s A) (dd + 1).toNat n' I' → K n' I') → om_R sc (d + 6) 143 7 [.inr (.inl 101), .inl g, .inl dd, .inl (j : Int), x] [] (om_O s (om_qs q 12 n), I) Q := by
  intro m
  induction m with
  | zero =>
    intro j n x I h1 hA hS hq
    simp only [x_Md_isImage_7, x_Md_isImage_8, x_Md_isImage_9]
    rw [if_pos (by omega)]
    have e : (j : Int) = dd + 1 := by omega
    have e2 : j = (dd + 1).toNat := by omega
    rw [e]
    refine hK n I x (hq I n (fun _ _ _ => rfl) hA ?_)
    rw [← e2]
    exact hS
  | succ m ih =>
    intro j n x I h1 hA hS hq
    simp only [x_Md_isImage_7, x_Md_isImage_8, x_Md_isImage_9]
    rw [if_neg (by omega)]
    simp only [x_Md_isImage_12, x_Md_isImage_13, x_Md_isImage_14, rO_101, Option.toList_some, Option.toList_none, List.cons_append, List.nil_append, List.length_cons, List.length_nil, Nat.reduceAdd, Nat.zero_add, Nat.reduceLeDiff, true_and]
    refine md_show0 (by omega) hA suA rA (fun I1 f1 f2 f3 f4 => ?_)
    have hS1 : on_sI (on_M s A) j n I1 := on_sI_c hS (fun b hb => f1 b (by omega) (by omega) (by omega))
    simp only [x_Md_isImage_17, x_Md_isImage_18, rO_101, Option.toList_some, Option.toList_none, List.cons_append, List.nil_append, List.length_cons, List.length_nil, Nat.reduceAdd, Nat.zero_add, Nat.reduceLeDiff, true_and]
    refine md_reduce (om_qs_eq) (by omega) hS1 (Or.inl rfl) (by omega) (on_rp_0 (by omega) on_M_r f3 f4) (fun I2 f5 f6 => ?_)
    have fs2 : on_fs I I2 := fun b b1 b2 => by rw [f5 b (by omega) (by omega), f1 b b1 (by omega) (by omega)]
    have hS2 : on_sI (on_M s A) j n I2 := on_sI_c hS1 (fun b hb => f5 b (by omega) (by omega))
    have hA2 : om_mt I2 0 = A := by rw [on_mt_c (f5 103 (by decide) (by decide))]; exact f2
    rw [← f5 111 (by decide) (by decide)] at f6
    simp only [x_Md_isImage_21, x_Md_isImage_22, rO_101, Option.toList_some, Option.toList_none, List.cons_append, List.nil_append, List.length_cons, List.length_nil, Nat.reduceAdd, Nat.zero_add, Nat.reduceLeDiff, true_and]
    refine md_firstOf (fun k k0 k1 hn => ?_) (fun hz => ?_)
    · simp only [x_Md_isImage_25, x_Md_isImage_27, x_Md_isImage_29, x_Md_isImage_31, Option.toList_some, Option.toList_none, List.cons_append, List.nil_append, List.length_cons, List.length_nil, Nat.reduceAdd, Nat.zero_add, Nat.reduceLeDiff, true_and]
      rw [if_neg (by omega)]
      simp only [x_Md_isImage_34, x_Md_isImage_35, x_Md_isImage_37, rO_101, Option.toList_some, Option.toList_none, List.cons_append, List.nil_append, List.length_cons, List.length_nil, Nat.reduceAdd, Nat.zero_add, Nat.reduceLeDiff, true_and]
      refine md_tell om_qs_eq (by omega) hS2 f6 ⟨k0, k1⟩ hn (fun I3 f7 f8 => ?_)
      rw [on_qs2]
      simp only [x_Md_isImage_40, x_Md_isImage_43, Option.toList_some, Option.toList_none, List.cons_append, List.nil_append, List.length_cons, List.length_nil, Nat.reduceAdd, Nat.zero_add, Nat.reduceLeDiff, true_and]
      refine ⟨⟨by omega, by omega⟩, ?_⟩
      have h := ih (j + 1) (n + 1) (.inl k) I3 (by omega) (by rw [on_mt_c (f7 103 (by decide) (by decide) (by decide))]; exact hA2) f8 (fun I' n' f9 f10 f11 => hq I' n' (on_fs_tr (on_fs_tr fs2 (fun b b1 b2 => f7 b (by omega) (by omega) (by omega))) f9) f10 f11)
      simpa using h
    · simp only [x_Md_isImage_25, x_Md_isImage_27, x_Md_isImage_29, x_Md_isImage_31, Option.toList_some, Option.toList_none, List.cons_append, List.nil_append, List.length_cons, List.length_nil, Nat.reduceAdd, Nat.zero_add, Nat.reduceLeDiff, true_and]
      rw [if_pos (by omega)]
      simp only [x_Md_isImage_40, x_Md_isImage_43, Option.toList_some, Option.toList_none, List.cons_append, List.nil_append, List.length_cons, List.length_nil, Nat.reduceAdd, Nat.zero_add, Nat.reduceLeDiff, true_and]
      refine ⟨⟨by omega, by omega⟩, ?_⟩
      have h := ih (j + 1) n (.inl 25) I2 (by omega) hA2 (on_st_dep (by omega) hS2 f6 hz) (fun I' n' f9 f10 f11 => hq I' n' (on_fs_tr fs2 f9) f10 f11)
      simpa using h
theorem md_isI_g {sc : Int × (Int → Int)} {d : Nat} {s : Int} {q : Nat → Int} {Q : Option om_V → om_H → Prop} {g dd : Int} (hg : 0 ≤ g ∧ g < 8) {x : om_V} {G : Int → Int} (K : (Nat → Int → Int) → Prop) (hK : ∀ I', K I' → om_R sc (d + 6) 143 87 [.inr (.inl 101), .inl g, .inl dd, .inl 25, x] [] (om_O s q, I') Q) : ∀ (m : Nat) (k : Int) (I : Nat → Int → Int), k + m = 25 → 0 ≤ k → om_hd I g 0 = G → (∀ k', 0 ≤ k' → k' < k → I 112 k' = G k') → (∀ I', (∀ b, b ≠ 112 → I' b = I b) → (∀ k', 0 ≤ k' → k' < 25 → I' 112 k' = G k') → K I') → om_R sc (d + 6) 143 48 [.inr (.inl 101), .inl g, .inl dd, .inl k, x] [] (om_O s q, I) Q := by
  intro m
  induction m with
  | zero =>
    intro k I h1 h2 hG hk hq
    simp only [x_Md_isImage_48, x_Md_isImage_49, x_Md_isImage_51]
    rw [if_pos (by omega)]
    have e : k = 25 := by omega
    subst e
    exact hK I (hq I (fun _ _ => rfl) hk)
  | succ m ih =>
    intro k I h1 h2 hG hk hq
    simp only [x_Md_isImage_48, x_Md_isImage_49, x_Md_isImage_51]
    rw [if_neg (by omega)]
    have next : ∀ v : Int, v = G k → om_R sc (d + 6) 143 81 [.inr (.inl 101), .inl g, .inl dd, .inl k, x] [] (om_O s q, om_u I 112 (om_p (I 112) k v)) Q := by
      intro v hv
      simp only [x_Md_isImage_81, x_Md_isImage_84, Option.toList_some, Option.toList_none, List.cons_append, List.nil_append, List.length_cons, List.length_nil, Nat.reduceAdd, Nat.zero_add, Nat.reduceLeDiff, true_and]
      refine ⟨⟨by omega, by omega⟩, ih _ _ (by omega) (by omega) (by
        rw [← hG]
        funext a
        unfold om_hd
        rw [om_u_ne (by decide)]) (fun k' a b => ?_) (fun I' f1 f2 => hq I' (fun b hb => by rw [f1 b hb, om_u_ne hb]) f2)⟩
      rw [om_u_eq]
      by_cases e : k' = k
      · rw [e, om_p_eq]
        exact hv
      · rw [om_p_ne e]
        exact hk k' a (by omega)
    simp only [x_Md_isImage_54, x_Md_isImage_55, x_Md_isImage_58, x_Md_isImage_59, x_Md_isImage_60, x_Md_isImage_62, x_Md_isImage_65, x_Md_isImage_66, x_Md_isImage_69, x_Md_isImage_71, x_Md_isImage_72, x_Md_isImage_73, x_Md_isImage_74, x_Md_isImage_75, x_Md_isImage_76, x_Md_isImage_79, x_Md_isImage_80, gO_101_17, gO_101_1, aO_102, aO_112, Option.toList_some, Option.toList_none, List.cons_append, List.nil_append, List.length_cons, List.length_nil, Nat.reduceAdd, Nat.zero_add, Nat.reduceLeDiff, true_and]
    by_cases e : 13 ≤ k
    · rw [if_pos e]
      refine ⟨by omega, next 0 ?_⟩
      rw [← hG]
      exact (om_hd_su 0 k (by omega)).symm
    · rw [if_neg e]
      refine ⟨⟨by omega, by omega⟩, ⟨by omega, by omega⟩, by omega, by omega, next _ ?_⟩
      rw [← hG, om_hd_in (by omega) (by omega) (by omega)]
      congr 1
      omega
theorem md_isI_s {sc : Int × (Int → Int)} {d : Nat} {s : Int} {q : Nat → Int} {Q : Option om_V → om_H → Prop} {g dd : Int} {x : om_V} (K : (Nat → Int → Int) → Prop) (hK : ∀ I', K I' → om_R sc (d + 6) 143 108 [.inr (.inl 101), .inl g, .inl dd, .inl 13, x] [] (om_O s q, I') Q) : ∀ (m : Nat) (k : Int) (I : Nat → Int → Int), k + m = 13 → 0 ≤ k → (∀ k', 0 ≤ k' → k' < k → I 113 k' = 0) → (∀ I', (∀ b, b ≠ 113 → I' b = I b) → (∀ k', 0 ≤ k' → k' < 13 → I' 113 k' = 0) → K I') → om_R sc (d + 6) 143 89 [.inr (.inl 101), .inl g, .inl dd, .inl k, x] [] (om_O s q, I) Q := by
  intro m
  induction m with
  | zero =>
    intro k I h1 h2 hk hq
    simp only [x_Md_isImage_89, x_Md_isImage_90, x_Md_isImage_92]
    rw [if_pos (by omega)]
    have e : k = 13 := by omega
    subst e
    exact hK I (hq I (fun _ _ => rfl) hk)
  | succ m ih =>
    intro k I h1 h2 hk hq
    simp only [x_Md_isImage_89, x_Md_isImage_90, x_Md_isImage_92]
    rw [if_neg (by omega)]
    simp only [x_Md_isImage_95, x_Md_isImage_96, x_Md_isImage_99, x_Md_isImage_100, x_Md_isImage_101, x_Md_isImage_102, x_Md_isImage_105, gO_101_18, aO_113, Option.toList_some, Option.toList_none, List.cons_append, List.nil_append, List.length_cons, List.length_nil, Nat.reduceAdd, Nat.zero_add, Nat.reduceLeDiff, true_and]
    refine ⟨by omega, ⟨by omega, by omega⟩, ih _ _ (by omega) (by omega) (fun k' a b => ?_) (fun I' f1 f2 => hq I' (fun b hb => by rw [f1 b hb, om_u_ne hb]) f2)⟩
    rw [om_u_eq]
    by_cases e : k' = k
    · rw [e, om_p_eq]
    · rw [om_p_ne e]
      exact hk k' a (by omega)
theorem md_isImage {sc : Int × (Int → Int)} {d : Nat} {s : Int} {q : Nat → Int} {I : Nat → Int → Int} {Q : Option om_V → om_H → Prop} {g dd : Int} (hg : 0 ≤ g ∧ g < 8) (hd : 0 ≤ dd ∧ dd ≤ 12) {A : Int → Int → Int} (hA : om_mt I 0 = A) (suA : om_su 5 13 A) (rA : om_r31 A) (rG : om_r31 (om_hd I g)) (h0 : on_nos (on_M s A) (om_hd I g 0) dd → ∀ I' n, on_fs I I' → Q (some (.inl 0)) (om_O s (om_qs q 12 n), I')) (h1 : ∀ I' n, on_fs I I' → om_mt I' 0 = A → on_sI (on_M s A) (dd + 1).toNat n I' → on_rp (on_M s A) (om_hd I g 0) (I' 111) (dd + 1) (-1) n (I' 112) (I' 113) → (∀ k, 0 ≤ k → k < 25 → I' 112 k = 0) → Q (some (.inl 1)) (om_O s (om_qs q 12 n), I')) : om_R sc (d + 6) 143 0 [.inr (.inl 101), .inl g, .inl dd, om_un, om_un] [] (om_O s q, I) Q := by
  simp only [x_Md_isImage_0, x_Md_isImage_1, x_Md_isImage_2, x_Md_isImage_5, x_Md_isImage_6, pO_101_16 143 0 rfl]
  have h := md_isI_l (sc := sc) (d := d) (s := s) (q := q) (Q := Q) (g := g) hd suA rA (fun n' I' => on_fs I I' ∧ om_mt I' 0 = A ∧ on_sI (on_M s A) (dd + 1).toNat n' I') (fun n I1 x ⟨g1, g2, g3⟩ => ?_) (dd + 1).toNat 0 0 om_un I (by omega) hA on_st_0 (fun I' n' f1 f2 f3 => ⟨f1, f2, f3⟩)
  · simpa using h
  · have en := g3.1
    have hb := on_pc_b (p := on_ip (on_M s A)) (dd + 1).toNat
    simp only [x_Md_isImage_46, x_Md_isImage_47, Option.toList_some, Option.toList_none, List.cons_append, List.nil_append, List.length_cons, List.length_nil, Nat.reduceAdd, Nat.zero_add, Nat.reduceLeDiff, true_and]
    have eG : om_hd I1 g 0 = om_hd I g 0 := by
      funext a
      unfold om_hd
      rw [g1 102 (by decide) (by decide)]
    refine md_isI_g hg (fun I2 => (∀ b, b ≠ 112 → I2 b = I1 b) ∧ ∀ k', 0 ≤ k' → k' < 25 → I2 112 k' = om_hd I g 0 k') (fun I2 ⟨g4, g5⟩ => ?_) 25 0 I1 (by omega) (by omega) eG (fun k' a b => by omega) (fun I2 f1 f2 => ⟨f1, f2⟩)
    simp only [x_Md_isImage_87, x_Md_isImage_88, Option.toList_some, Option.toList_none, List.cons_append, List.nil_append, List.length_cons, List.length_nil, Nat.reduceAdd, Nat.zero_add, Nat.reduceLeDiff, true_and]
    refine md_isI_s (fun I3 => (∀ b, b ≠ 113 → I3 b = I2 b) ∧ ∀ k', 0 ≤ k' → k' < 13 → I3 113 k' = 0) (fun I3 ⟨g6, g7⟩ => ?_) 13 0 I2 (by omega) (by omega) (fun k' a b => by omega) (fun I3 f1 f2 => ⟨f1, f2⟩)
    have hS3 : on_sI (on_M s A) (dd + 1).toNat n I3 := on_sI_c g3 (fun b hb => by rw [g6 b (by omega), g4 b (by omega)])
    have fs3 : on_fs I I3 := on_fs_tr g1 (fun b b1 b2 => by rw [g6 b (by omega), g4 b (by omega)])
    have ed : ((dd + 1).toNat : Int) = dd + 1 := by omega
    have hr0 : on_rp (on_M s A) (om_hd I g 0) (I3 111) ((dd + 1).toNat : Int) (-1) 0 (I3 112) (I3 113) := by
      refine ⟨fun k k0 k1 => ?_, fun r' a b => by omega, fun k k0 k1 => ⟨by rw [g7 k k0 k1]; decide, fun _ hk => absurd (g7 k k0 k1) hk⟩, fun h => by omega⟩
      have e : I3 112 k = om_hd I g 0 k := by rw [g6 112 (by decide)]; exact g5 k k0 k1
      have z : on_mv (on_M s A) (I3 113) k = 0 := om_sm_0 (fun k' a b => by rw [g7 k' a (by omega), Int.mul_zero])
      rw [e, z]
      exact ⟨rG 0 k, by omega⟩
    simp only [x_Md_isImage_108, x_Md_isImage_109, rO_101, Option.toList_some, Option.toList_none, List.cons_append, List.nil_append, List.length_cons, List.length_nil, Nat.reduceAdd, Nat.zero_add, Nat.reduceLeDiff, true_and]
    refine md_reduce om_qs_eq (by omega) hS3 (Or.inr (by decide)) (by decide) hr0 (fun I4 f5 f6 => ?_)
    have hS4 : on_sI (on_M s A) (dd + 1).toNat n I4 := on_sI_c hS3 (fun b hb => f5 b (by omega) (by omega))
    have fs4 : on_fs I I4 := on_fs_tr fs3 (fun b b1 b2 => f5 b (by omega) (by omega))
    rw [← f5 111 (by decide) (by decide), ed] at f6
    simp only [x_Md_isImage_112, x_Md_isImage_113, rO_101, Option.toList_some, Option.toList_none, List.cons_append, List.nil_append, List.length_cons, List.length_nil, Nat.reduceAdd, Nat.zero_add, Nat.reduceLeDiff, true_and]
    refine md_firstOf (fun k k0 k1 hn => ?_) (fun hz => ?_)
    · simp only [x_Md_isImage_116, x_Md_isImage_118, x_Md_isImage_121, x_Md_isImage_122, x_Md_isImage_125, x_Md_isImage_126, Option.toList_some, Option.toList_none, List.cons_append, List.nil_append, List.length_cons, List.length_nil, Nat.reduceAdd, Nat.zero_add, Nat.reduceLeDiff, true_and]
      rw [if_neg (by omega)]
      exact ⟨by decide, h0 (on_rp_nos hd hS4 f6 ⟨k0, k1⟩ hn) I4 n fs4⟩
    · simp only [x_Md_isImage_116, x_Md_isImage_118, x_Md_isImage_121, x_Md_isImage_122, x_Md_isImage_125, x_Md_isImage_126, Option.toList_some, Option.toList_none, List.cons_append, List.nil_append, List.length_cons, List.length_nil, Nat.reduceAdd, Nat.zero_add, Nat.reduceLeDiff, true_and, if_true]
      exact ⟨by decide, h1 I4 n fs4 (by rw [on_mt_c (f5 103 (by decide) (by decide)), on_mt_c (g6 103 (by decide)), on_mt_c (g4 103 (by decide))]; exact g2) hS4 f6 hz⟩
theorem on_qs3 {q : Nat → Int} {a n b : Int} : om_qs (om_qs (om_qs q 11 a) 12 n) 11 b = om_qs (om_qs q 11 b) 12 n := by
  funext m
  unfold om_qs
  by_cases h : m = 11
  · subst h
    simp
  · by_cases h2 : m = 12
    · subst h2
      simp
    · simp [h, h2]
theorem on_qs4 {q : Nat → Int} {a b : Int} : om_qs (om_qs q 12 a) 11 b = om_qs (om_qs q 11 b) 12 a := by
  funext m
  unfold om_qs
  by_cases h : m = 11
  · subst h
    simp
  · by_cases h2 : m = 12
    · subst h2
      simp
    · simp [h, h2]
theorem on_qs5 {q : Nat → Int} {a b : Int} : om_qs (om_qs q 12 a) 11 b 11 = b := if_pos rfl
theorem on_qs6 {q : Nat → Int} {a b : Int} : om_qs (om_qs q 11 b) 12 a 11 = b := rfl
/-- the columns that are combinations -/
noncomputable def on_if (M : Int → Int → Int) (k : Int) : Bool := !on_ip M k
noncomputable def on_sw (M : Int → Int → Int) (j : Nat) (X : Int → Int → Int) : Prop := ∀ i : Nat, i < j → on_ip M i = false → X (on_pc (on_if M) i + 1) i = 1 ∧ (∀ k : Int, k ≠ i → X (on_pc (on_if M) i + 1) k ≠ 0 → on_ip M k = true ∧ 0 ≤ k ∧ k < i) ∧ on_K M (X (on_pc (on_if M) i + 1))
theorem md_solve_l {sc : Int × (Int → Int)} {d : Nat} {s : Int} {q : Nat → Int} {Q : Option om_V → om_H → Prop} {a g dd : Int} (hd : 0 ≤ dd ∧ dd ≤ 12) {A : Int → Int → Int} (suA : om_su 5 13 A) (rA : om_r31 A) {X0 : Int → Int} : ∀ (m j n : Nat) (x : om_V) (I : Nat → Int → Int), (j : Int) + m = dd + 1 → om_mt I 0 = A → on_sI (on_M s A) j n I → om_tb 14 13 (I 108) 0 = X0 → on_sw (on_M s A) j (om_tb 14 13 (I 108)) → om_r31 (om_tb 14 13 (I 108)) → (∀ I' n', (∀ b, b ≠ 103 → b < 108 ∨ 113 < b → I' b = I b) → om_tb 14 13 (I' 108) 0 = X0 → on_sw (on_M s A) (dd + 1).toNat (om_tb 14 13 (I' 108)) → om_r31 (om_tb 14 13 (I' 108)) → Q (some (.inl (on_pc (on_if (on_M s A)) (dd + 1).toNat))) (om_O s (om_qs (om_qs q 11 (on_pc (on_if (on_M s A)) (dd + 1).toNat)) 12 n'), I')) → om_R sc (d + 6) 142 74 [.inr (.inl 101), .inl a, .inl g, .inl dd, .inl (j : Int), x] [] (om_O s (om_qs (om_qs q 11 (on_pc (on_if (on_M s A)) j)) 12 n), I) Q := by
  intro m
  induction m with
  | zero =>
    intro j n x I h1 hA hS h0 hw hr hq
    simp only [x_Md_solve_74, x_Md_solve_76, x_Md_solve_77, x_Md_solve_137, x_Md_solve_138, x_Md_solve_141, gO_101_11, on_qs6]
    rw [if_pos (by omega)]
    have e2 : j = (dd + 1).toNat := by omega
    rw [e2] at hw ⊢
    exact hq I n (fun _ _ _ => rfl) h0 hw hr
  | succ m ih =>
    intro j n x I h1 hA hS h0 hw hr hq
    have cb := on_pc_b (p := on_if (on_M s A)) j
    simp only [x_Md_solve_74, x_Md_solve_76, x_Md_solve_77]
    rw [if_neg (by omega)]
    simp only [x_Md_solve_80, x_Md_solve_81, x_Md_solve_83, rO_101, Option.toList_some, Option.toList_none, List.cons_append, List.nil_append, List.length_cons, List.length_nil, Nat.reduceAdd, Nat.zero_add, Nat.reduceLeDiff, true_and]
    refine md_show0 (by omega) hA suA rA (fun I1 f1 f2 f3 f4 => ?_)
    have hS1 : on_sI (on_M s A) j n I1 := on_sI_c hS (fun b hb => f1 b (by omega) (by omega) (by omega))
    simp only [x_Md_solve_86, x_Md_solve_87, rO_101, Option.toList_some, Option.toList_none, List.cons_append, List.nil_append, List.length_cons, List.length_nil, Nat.reduceAdd, Nat.zero_add, Nat.reduceLeDiff, true_and]
    refine md_reduce (om_qs_eq) (by omega) hS1 (Or.inl rfl) (by omega) (on_rp_0 (by omega) on_M_r f3 f4) (fun I2 f5 f6 => ?_)
    have fs2 : ∀ b, b ≠ 103 → b < 109 ∨ 113 < b → I2 b = I b := fun b b1 b2 => by rw [f5 b (by omega) (by omega), f1 b b1 (by omega) (by omega)]
    have hS2 : on_sI (on_M s A) j n I2 := on_sI_c hS1 (fun b hb => f5 b (by omega) (by omega))
    have hA2 : om_mt I2 0 = A := by rw [on_mt_c (f5 103 (by decide) (by decide))]; exact f2
    rw [← f5 111 (by decide) (by decide)] at f6
    have e1 : on_pc (on_if (on_M s A)) (j + 1) = on_pc (on_if (on_M s A)) j + (if on_if (on_M s A) j then 1 else 0) := rfl
    simp only [x_Md_solve_90, x_Md_solve_91, rO_101, Option.toList_some, Option.toList_none, List.cons_append, List.nil_append, List.length_cons, List.length_nil, Nat.reduceAdd, Nat.zero_add, Nat.reduceLeDiff, true_and]
    refine md_firstOf (fun k k0 k1 hn => ?_) (fun hz => ?_)
    · have hip := on_ip_t.mpr (on_rp_ind (by omega) hS2 f6 ⟨k0, k1⟩ hn)
      have hif : on_if (on_M s A) j = false := by unfold on_if; rw [hip]; rfl
      rw [hif] at e1
      simp only [Bool.false_eq_true, if_false, Int.add_zero] at e1
      simp only [x_Md_solve_94, x_Md_solve_96, x_Md_solve_98, x_Md_solve_100, Option.toList_some, Option.toList_none, List.cons_append, List.nil_append, List.length_cons, List.length_nil, Nat.reduceAdd, Nat.zero_add, Nat.reduceLeDiff, true_and]
      rw [if_neg (by omega)]
      simp only [x_Md_solve_103, x_Md_solve_104, x_Md_solve_106, rO_101, Option.toList_some, Option.toList_none, List.cons_append, List.nil_append, List.length_cons, List.length_nil, Nat.reduceAdd, Nat.zero_add, Nat.reduceLeDiff, true_and]
      refine md_tell om_qs_eq (by omega) hS2 f6 ⟨k0, k1⟩ hn (fun I3 f7 f8 => ?_)
      rw [on_qs2]
      simp only [x_Md_solve_109, x_Md_solve_131, x_Md_solve_134, Option.toList_some, Option.toList_none, List.cons_append, List.nil_append, List.length_cons, List.length_nil, Nat.reduceAdd, Nat.zero_add, Nat.reduceLeDiff, true_and]
      refine ⟨⟨by omega, by omega⟩, ?_⟩
      have e108 : I3 108 = I 108 := by rw [f7 108 (by decide) (by decide) (by decide), fs2 108 (by decide) (by decide)]
      have h := ih (j + 1) (n + 1) (.inl k) I3 (by omega) (by rw [on_mt_c (f7 103 (by decide) (by decide) (by decide))]; exact hA2) f8 (by rw [e108]; exact h0) (by
        rw [e108]
        intro i hi hp
        by_cases e : i = j
        · rw [e, hip] at hp
          exact absurd hp (by decide)
        · exact hw i (by omega) hp) (by rw [e108]; exact hr) (fun I' n' f9 f10 => hq I' n' (fun b b1 b2 => by rw [f9 b b1 b2, f7 b (by omega) (by omega) (by omega), fs2 b b1 (by omega)]) f10)
      rw [e1] at h
      simpa using h
    · have hdp := on_rp_dep (by omega) f6 hz
      have hip := on_ip_f hdp.1
      have hif : on_if (on_M s A) j = true := by unfold on_if; rw [hip]; rfl
      rw [hif] at e1
      simp only [if_true] at e1
      simp only [x_Md_solve_94, x_Md_solve_96, x_Md_solve_98, x_Md_solve_100, Option.toList_some, Option.toList_none, List.cons_append, List.nil_append, List.length_cons, List.length_nil, Nat.reduceAdd, Nat.zero_add, Nat.reduceLeDiff, true_and]
      rw [if_pos (by omega)]
      simp only [x_Md_solve_112, x_Md_solve_113, x_Md_solve_114, x_Md_solve_117, x_Md_solve_118, x_Md_solve_119, x_Md_solve_122, x_Md_solve_123, x_Md_solve_124, x_Md_solve_127, x_Md_solve_128, gO_101_11, on_qs6, rO_101, pO_101_11 142 (on_pc (on_if (on_M s A)) j + 1) rfl, on_qs3, Option.toList_some, Option.toList_none, List.cons_append, List.nil_append, List.length_cons, List.length_nil, Nat.reduceAdd, Nat.zero_add, Nat.reduceLeDiff, true_and]
      refine ⟨⟨by omega, by omega⟩, ?_⟩
      refine md_note (by omega) (Or.inl rfl) (fun k a b => (f6.2.2.1 k a b).1) (fun I3 f7 f8 => ?_)
      rw [fs2 108 (by decide) (by decide)] at f8
      simp only [x_Md_solve_131, x_Md_solve_134, Option.toList_some, Option.toList_none, List.cons_append, List.nil_append, List.length_cons, List.length_nil, Nat.reduceAdd, Nat.zero_add, Nat.reduceLeDiff, true_and]
      refine ⟨⟨by omega, by omega⟩, ?_⟩
      have ex : ∀ i' k', om_tb 14 13 (I3 108) i' k' = if i' = on_pc (on_if (on_M s A)) j + 1 then (if 0 ≤ k' ∧ k' < 13 then I2 113 k' else 0) else om_tb 14 13 (I 108) i' k' := by
        intro i' k'
        rw [f8 i' k']
        by_cases hi : i' = on_pc (on_if (on_M s A)) j + 1
        · rw [if_pos hi]
          by_cases hk : 0 ≤ k' ∧ k' < 13
          · have := (f6.2.2.1 k' hk.1 hk.2).1
            rw [if_pos ⟨hi, hk⟩, if_pos hk]
            omega
          · rw [if_neg (fun z => hk z.2), if_neg hk, om_tb_out (by omega)]
        · rw [if_neg (fun z => hi z.1), if_neg hi]
      have fs3 : ∀ b, b ≠ 103 → b < 108 ∨ 113 < b → I3 b = I b := fun b b1 b2 => by rw [f7 b (by omega), fs2 b b1 (by omega)]
      have h := ih (j + 1) n (.inl 25) I3 (by omega) (by rw [on_mt_c (f7 103 (by decide))]; exact hA2) (on_st_dep (by omega) (on_sI_c hS2 (fun b hb => f7 b (by omega))) (by rw [f7 111 (by decide)]; exact f6) hz) (by
        rw [← h0]
        funext k'
        rw [ex 0 k', if_neg (by omega)]) (by
        intro i hi hp
        by_cases e : i = j
        · subst e
          have ey : om_tb 14 13 (I3 108) (on_pc (on_if (on_M s A)) i + 1) = fun k' => if 0 ≤ k' ∧ k' < 13 then I2 113 k' else 0 := by
            funext k'
            rw [ex _ k', if_pos rfl]
          rw [ey]
          refine ⟨?_, fun k kn hk => ?_, fun r r0 r1 => ?_⟩
          · show (if 0 ≤ (i : Int) ∧ (i : Int) < 13 then I2 113 i else 0) = 1
            rw [if_pos (by omega)]
            exact f6.2.2.2 (by omega)
          · by_cases hin : 0 ≤ k ∧ k < 13
            · simp only [if_pos hin] at hk
              have := (f6.2.2.1 k hin.1 hin.2).2 kn hk
              exact ⟨this.1, hin.1, this.2⟩
            · simp only [if_neg hin] at hk
              exact absurd rfl hk
          · have h3 := hdp.2 r r0 r1
            have h4 : on_mv (on_M s A) (fun k' => if 0 ≤ k' ∧ k' < 13 then I2 113 k' else 0) r = on_mv (on_M s A) (I2 113) r := om_sm_c (fun k a b => by
              show on_M s A r k * (if 0 ≤ k ∧ k < 13 then I2 113 k else 0) = _
              rw [if_pos ⟨a, by omega⟩])
            rw [h4]
            exact h3
        · have hfi : on_if (on_M s A) i = true := by unfold on_if; rw [hp]; rfl
          have := on_pc_lt (p := on_if (on_M s A)) (show i < j by omega) hfi
          have ey : om_tb 14 13 (I3 108) (on_pc (on_if (on_M s A)) i + 1) = om_tb 14 13 (I 108) (on_pc (on_if (on_M s A)) i + 1) := by
            funext k'
            rw [ex _ k', if_neg (by omega)]
          rw [ey]
          exact hw i (by omega) hp) (by
        intro i' k'
        rw [ex i' k']
        split
        · split
          · rename_i h2
            exact (f6.2.2.1 k' h2.1 h2.2).1
          · omega
        · exact hr i' k') (fun I' n' f9 f10 => hq I' n' (fun b b1 b2 => by rw [f9 b b1 b2, fs3 b b1 b2]) f10)
      rw [e1] at h
      simpa using h
theorem md_solve {sc : Int × (Int → Int)} {d : Nat} {s : Int} {q : Nat → Int} {I : Nat → Int → Int} {Q : Option om_V → om_H → Prop} {a g dd : Int} (rA : ∀ r, 0 ≤ r → r < 8 → om_r31 (om_hd I r)) (r108 : om_r31 (om_tb 14 13 (I 108))) (h0 : ¬ ((0 ≤ a ∧ a < 8) ∧ (0 ≤ g ∧ g < 8) ∧ 0 ≤ dd ∧ dd ≤ 12) → Q (some (.inl (-1))) (om_O s q, I)) (h5 : (0 ≤ a ∧ a < 8) ∧ (0 ≤ g ∧ g < 8) ∧ 0 ≤ dd ∧ dd ≤ 12 → 0 < om_or 5 13 (om_hd I g) → ∀ I', (∀ b, b ≠ 103 → I' b = I b) → Q (some (.inl (-5))) (om_O s q, I')) (hn : (0 ≤ a ∧ a < 8) ∧ (0 ≤ g ∧ g < 8) ∧ 0 ≤ dd ∧ dd ≤ 12 → om_or 5 13 (om_hd I g) ≤ 0 → on_nos (on_M s (om_hd I a)) (om_hd I g 0) dd → ∀ I' n, on_fs I I' → Q (some (.inl (-4))) (om_O s (om_qs q 12 n), I')) (h1 : (0 ≤ a ∧ a < 8) ∧ (0 ≤ g ∧ g < 8) ∧ 0 ≤ dd ∧ dd ≤ 12 → om_or 5 13 (om_hd I g) ≤ 0 → ∀ I' D n, (∀ b, b ≠ 103 → b < 108 ∨ 113 < b → I' b = I b) → on_sol (on_M s (om_hd I a)) (om_hd I g 0) dd D (om_tb 14 13 (I' 108)) → om_r31 (om_tb 14 13 (I' 108)) → Q (some (.inl D)) (om_O s (om_qs (om_qs q 11 D) 12 n), I')) : om_R sc (d + 7) 142 0 [.inr (.inl 101), .inl a, .inl g, .inl dd, om_un, om_un] [] (om_O s q, I) Q := by
  have n10 : ¬ (1 : Int) = 0 := by decide
  simp only [x_Md_solve_0, x_Md_solve_1, Option.toList_some, Option.toList_none, List.cons_append, List.nil_append, List.length_cons, List.length_nil, Nat.reduceAdd, Nat.zero_add, Nat.reduceLeDiff, true_and]
  refine md_isRegister (fun r1 => ?_) (fun r1 => ?_)
  · simp only [x_Md_solve_4, x_Md_solve_7, x_Md_solve_8, Option.toList_some, Option.toList_none, List.cons_append, List.nil_append, List.length_cons, List.length_nil, Nat.reduceAdd, Nat.zero_add, Nat.reduceLeDiff, true_and, if_neg n10]
    refine md_isRegister (fun r2 => ?_) (fun r2 => ?_)
    · simp only [x_Md_solve_11, x_Md_solve_14, x_Md_solve_15, Option.toList_some, Option.toList_none, List.cons_append, List.nil_append, List.length_cons, List.length_nil, Nat.reduceAdd, Nat.zero_add, Nat.reduceLeDiff, true_and, if_neg n10]
      by_cases d0 : dd < 0
      · rw [if_pos d0]
        simp only [x_Md_solve_24, x_Md_solve_25]
        exact h0 (fun h => by omega)
      · rw [if_neg d0]
        simp only [x_Md_solve_18, x_Md_solve_19, x_Md_solve_21]
        by_cases d1 : dd ≤ 12
        · have hc : (0 ≤ a ∧ a < 8) ∧ (0 ≤ g ∧ g < 8) ∧ 0 ≤ dd ∧ dd ≤ 12 := ⟨r1, r2, by omega⟩
          rw [if_pos d1]
          simp only [x_Md_solve_26, x_Md_solve_27, x_Md_solve_28, Option.toList_some, Option.toList_none, List.cons_append, List.nil_append, List.length_cons, List.length_nil, Nat.reduceAdd, Nat.zero_add, Nat.reduceLeDiff, true_and, rO_101]
          refine md_order (fun h => absurd r2 h) (fun _ I1 f1 => ?_)
          simp only [x_Md_solve_31, Option.toList_some, Option.toList_none, List.cons_append, List.nil_append, List.length_cons, List.length_nil, Nat.reduceAdd, Nat.zero_add, Nat.reduceLeDiff, true_and]
          by_cases ho : om_or 5 13 (om_hd I g) ≤ 0
          · rw [if_pos ho]
            simp only [x_Md_solve_37, x_Md_solve_38, x_Md_solve_39, x_Md_solve_40, Option.toList_some, Option.toList_none, List.cons_append, List.nil_append, List.length_cons, List.length_nil, Nat.reduceAdd, Nat.zero_add, Nat.reduceLeDiff, true_and, rO_101]
            refine md_load (by decide) (by omega) (fun I2 f2 f3 => ?_)
            rw [om_fr_hd f1] at f3
            have eh : om_hd I2 = om_hd I := by rw [om_fr_hd f2, om_fr_hd f1]
            have fr2 : ∀ b, b ≠ 103 → I2 b = I b := fun b hb => by rw [f2.1 b hb, f1.1 b hb]
            simp only [x_Md_solve_43, x_Md_solve_44, x_Md_solve_45, x_Md_solve_46, Option.toList_some, Option.toList_none, List.cons_append, List.nil_append, List.length_cons, List.length_nil, Nat.reduceAdd, Nat.zero_add, Nat.reduceLeDiff, true_and, rO_101]
            refine md_isImage r2 hc.2.2 f3 om_hd_su (rA a r1.1 r1.2) (by rw [eh]; exact rA g r2.1 r2.2) (fun hno I3 n f4 => ?_) (fun I3 n f4 f5 f6 f7 f8 => ?_)
            · rw [eh] at hno
              simp only [x_Md_solve_49, x_Md_solve_52, x_Md_solve_54, Option.toList_some, Option.toList_none, List.cons_append, List.nil_append, List.length_cons, List.length_nil, Nat.reduceAdd, Nat.zero_add, Nat.reduceLeDiff, true_and, if_true]
              exact hn hc ho hno I3 n (fun b b1 b2 => by rw [f4 b b1 b2, fr2 b b1])
            · rw [eh] at f7
              have e108 : I3 108 = I 108 := by rw [f4 108 (by decide) (by decide), fr2 108 (by decide)]
              simp only [x_Md_solve_49, x_Md_solve_52, x_Md_solve_54, x_Md_solve_55, x_Md_solve_56, x_Md_solve_57, x_Md_solve_58, Option.toList_some, Option.toList_none, List.cons_append, List.nil_append, List.length_cons, List.length_nil, Nat.reduceAdd, Nat.zero_add, Nat.reduceLeDiff, true_and, if_neg n10, rO_101]
              refine md_note (by decide) (Or.inr rfl) (fun k a b => (f7.2.2.1 k a b).1) (fun I4 f9 f10 => ?_)
              rw [e108] at f10
              have fs4 : ∀ b, b ≠ 103 → b < 108 ∨ 113 < b → I4 b = I b := fun b b1 b2 => by rw [f9 b (by omega), f4 b b1 (by omega), fr2 b b1]
              have r4 : om_r31 (om_tb 14 13 (I4 108)) := by
                intro i k
                rw [f10 i k]
                split
                · omega
                · exact r108 i k
              have x0 : ∀ k, om_tb 14 13 (I4 108) 0 k = if 0 ≤ k ∧ k < 13 then (-1 * I3 113 k) % 31 else 0 := by
                intro k
                rw [f10 0 k]
                by_cases hk : 0 ≤ k ∧ k < 13
                · rw [if_pos ⟨rfl, hk⟩, if_pos hk]
                · rw [if_neg (fun z => hk z.2), if_neg hk, om_tb_out (by omega)]
              have xs : ∀ k, om_tb 14 13 (I4 108) 0 k ≠ 0 → on_ip (on_M s (om_hd I a)) k = true ∧ 0 ≤ k ∧ k ≤ dd := by
                intro k hk
                rw [x0 k] at hk
                by_cases hk2 : 0 ≤ k ∧ k < 13
                · rw [if_pos hk2] at hk
                  have hz : I3 113 k ≠ 0 := fun e => hk (by rw [e]; rfl)
                  have := (f7.2.2.1 k hk2.1 hk2.2).2 (by omega) hz
                  exact ⟨this.1, hk2.1, by omega⟩
                · rw [if_neg hk2] at hk
                  exact absurd rfl hk
              have xm : ∀ r, 0 ≤ r → r < 25 → (on_mv (on_M s (om_hd I a)) (om_tb 14 13 (I4 108) 0) r - om_hd I g 0 r) % 31 = 0 := by
                intro r r0 r25
                have c1 : (on_mv (on_M s (om_hd I a)) (om_tb 14 13 (I4 108) 0) r - on_mv (on_M s (om_hd I a)) (fun k => 0 - 1 * I3 113 k) r) % 31 = 0 := on_mv_cg (fun k a b => by
                  rw [x0 k, if_pos ⟨a, b⟩]
                  omega)
                have c2 : on_mv (on_M s (om_hd I a)) (fun k => 0 - 1 * I3 113 k) r = on_mv (on_M s (om_hd I a)) (fun _ => 0) r - 1 * on_mv (on_M s (om_hd I a)) (I3 113) r := on_mv_sub
                have c3 : on_mv (on_M s (om_hd I a)) (fun _ => 0) r = 0 := om_sm_0 (fun _ _ _ => Int.mul_zero _)
                have c4 := (f7.1 r r0 r25).2
                rw [f8 r r0 r25] at c4
                omega
              simp only [x_Md_solve_61, x_Md_solve_62, x_Md_solve_63, x_Md_solve_66, x_Md_solve_67, x_Md_solve_68, x_Md_solve_71, x_Md_solve_72, Option.toList_some, Option.toList_none, List.cons_append, List.nil_append, List.length_cons, List.length_nil, Nat.reduceAdd, Nat.zero_add, Nat.reduceLeDiff, true_and, pO_101_16 142 0 rfl, pO_101_11 142 0 rfl, on_qs2, on_qs4]
              have h := md_solve_l (sc := sc) (d := d + 1) (s := s) (q := q) (Q := Q) (a := a) (g := g) hc.2.2 om_hd_su (rA a r1.1 r1.2) (X0 := om_tb 14 13 (I4 108) 0) (dd + 1).toNat 0 0 om_un I4 (by omega) (by rw [on_mt_c (f9 103 (by decide))]; exact f5) on_st_0 rfl (fun i hi => absurd hi (by omega)) r4 (fun I5 n' f11 f12 f13 f14 => ?_)
              · have e0 : on_pc (on_if (on_M s (om_hd I a))) 0 = 0 := rfl
                rw [e0] at h
                simpa using h
              · refine h1 hc ho I5 _ n' (fun b b1 b2 => by rw [f11 b b1 b2, fs4 b b1 b2]) ⟨on_ip (on_M s (om_hd I a)), fun j _ _ hp => on_ip_t.mp hp, fun j jd hp => f13 j (by omega) hp, fun k hk => ?_, fun r r0 r25 => ?_, rfl, fun i k _ _ => f14 i k⟩ f14
                · rw [f12] at hk
                  exact xs k hk
                · rw [f12]
                  exact xm r r0 r25
          · rw [if_neg ho]
            simp only [x_Md_solve_34, x_Md_solve_36]
            exact h5 hc (by omega) I1 f1.1
        · rw [if_neg d1]
          simp only [x_Md_solve_24, x_Md_solve_25]
          exact h0 (fun h => by omega)
    · simp only [x_Md_solve_11, x_Md_solve_14, x_Md_solve_15, x_Md_solve_18, x_Md_solve_19, x_Md_solve_21, x_Md_solve_24, x_Md_solve_25, Option.toList_some, Option.toList_none, List.cons_append, List.nil_append, List.length_cons, List.length_nil, Nat.reduceAdd, Nat.zero_add, Nat.reduceLeDiff, true_and, if_true]
      exact h0 (fun h => r2 h.2.1)
  · simp only [x_Md_solve_4, x_Md_solve_7, x_Md_solve_8, x_Md_solve_11, x_Md_solve_14, x_Md_solve_15, x_Md_solve_18, x_Md_solve_19, x_Md_solve_21, x_Md_solve_24, x_Md_solve_25, Option.toList_some, Option.toList_none, List.cons_append, List.nil_append, List.length_cons, List.length_nil, Nat.reduceAdd, Nat.zero_add, Nat.reduceLeDiff, true_and, if_true]
    exact h0 (fun h => r1 h.1)
