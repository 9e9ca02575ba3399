/-! the output -/
theorem om_qs_qs {q : Nat → Int} {n : Nat} {a b : Int} : om_qs (om_qs q n a) n b = om_qs q n b := by
  funext m
  unfold om_qs
  split <;> rfl
theorem om_qs_self {q : Nat → Int} {n : Nat} {a : Int} (h : q n = a) : om_qs q n a = q := by
  funext m
  unfold om_qs
  split
  · rename_i e
    rw [e, h]
  · rfl
/-- an array begins with a list -/
def om_ol (f : Int → Int) (l : List Int) : Prop := ∀ z : Nat, z < l.length → f z = l.getD z 0
theorem om_ol_app {f : Int → Int} {l : List Int} {c : Int} (h : om_ol f l) : om_ol (om_p f l.length c) (l ++ [c]) := by
  intro z hz
  by_cases hc : z < l.length
  · rw [om_p_ne (by omega), h z hc]
    simp [List.getD, List.getElem?_append_left hc]
  · have hz2 : z = l.length := by simp at hz; omega
    subst hz2
    rw [om_p_eq]
    simp [List.getD]
def om_num (v : Int) : List Int := (if 10 ≤ v then [48 + v / 10] else []) ++ [48 + v % 10]
def om_pow (c n : Int) : List Int := (if 0 < n then [c] else []) ++ (if 1 < n then 94 :: om_num n else [])
def om_trm (l : List Int) (v k i : Int) : List Int := l ++ (if l = [] then [] else [43]) ++ (if v ≠ 1 ∨ k + i = 0 then om_num v else []) ++ om_pow 120 k ++ om_pow 84 i
theorem om_num_l (v : Int) : (om_num v).length ≤ 2 := by
  unfold om_num
  split <;> simp
theorem om_num_1 {v : Int} (h : v < 10) : (om_num v).length ≤ 1 := by
  unfold om_num
  rw [if_neg (by omega)]
  simp
theorem om_pow_l (c n : Int) : (om_pow c n).length ≤ 4 := by
  unfold om_pow
  have := om_num_l n
  split <;> split <;> simp <;> omega
theorem om_pow_3 {c n : Int} (h : n < 10) : (om_pow c n).length ≤ 3 := by
  unfold om_pow
  have := om_num_1 h
  split <;> split <;> simp <;> omega
theorem om_trm_l (l : List Int) (v k : Int) {i : Int} (hi : i < 10) : (om_trm l v k i).length ≤ l.length + 10 := by
  unfold om_trm
  have h1 := om_num_l v
  have h2 := om_pow_l 120 k
  have h3 := om_pow_3 (c := 84) hi
  simp only [List.length_append]
  split <;> split <;> simp <;> omega
theorem ou_sym {sc : Int × (Int → Int)} {d : Nat} {s : Int} {q : Nat → Int} {I : Nat → Int → Int} {Q : Option om_V → om_H → Prop} {c : Int} {l : List Int} (hl : q 0 = l.length) (ho : om_ol (I 3) l) (h6 : l.length < 650) (hc : 0 ≤ c ∧ c ≤ 65535) (hq : ∀ I', (∀ b, b ≠ 3 → I' b = I b) → om_ol (I' 3) (l ++ [c]) → Q none (om_O s (om_qs q 0 ((l ++ [c]).length : Int)), I')) : om_R sc d 90 0 [.inr (.inl 2), .inl c] [] (om_O s q, I) Q := by
  have e3 : ∀ K, om_rn (om_O s q) 3 K = K 650 := fun K => om_rn_eq rfl (by decide) (by decide) (by decide)
  simp only [x_Ou_writeSymbol_0, x_Ou_writeSymbol_1, x_Ou_writeSymbol_4, x_Ou_writeSymbol_5, x_Ou_writeSymbol_8, x_Ou_writeSymbol_9, gO_2_0, gO_2_1, e3]
  rw [if_neg (by omega)]
  simp only [x_Ou_writeSymbol_12, x_Ou_writeSymbol_13, x_Ou_writeSymbol_16, x_Ou_writeSymbol_17, x_Ou_writeSymbol_20, x_Ou_writeSymbol_21, x_Ou_writeSymbol_22, x_Ou_writeSymbol_23, x_Ou_writeSymbol_24, x_Ou_writeSymbol_27, x_Ou_writeSymbol_28, gO_2_0, gO_2_1, aO_3]
  refine ⟨⟨by omega, by omega⟩, hc, ⟨by omega, by omega⟩, ?_⟩
  simp only [x_Ou_writeSymbol_29, x_Ou_writeSymbol_32, pO_2_1 90 (q 0 + 1) rfl]
  have h := hq (om_u I 3 (om_p (I 3) (q 0) c)) (fun b hb => om_u_ne hb) (by rw [om_u_eq, hl]; exact om_ol_app ho)
  rw [show q 0 + 1 = ((l ++ [c]).length : Int) by simp; omega]
  exact h
theorem ou_num {sc : Int × (Int → Int)} {d : Nat} {s : Int} {q : Nat → Int} {I : Nat → Int → Int} {Q : Option om_V → om_H → Prop} {v : Int} {l : List Int} (hl : q 0 = l.length) (ho : om_ol (I 3) l) (h6 : l.length + (om_num v).length ≤ 650) (hv : 0 ≤ v ∧ v < 100) (hq : ∀ I', (∀ b, b ≠ 3 → I' b = I b) → om_ol (I' 3) (l ++ om_num v) → Q none (om_O s (om_qs q 0 ((l ++ om_num v).length : Int)), I')) : om_R sc (d + 1) 91 0 [.inr (.inl 2), .inl v] [] (om_O s q, I) Q := by
  have t1 : Int.tdiv v 10 = v / 10 := Int.tdiv_eq_ediv_of_nonneg hv.1
  have t2 : Int.tmod v 10 = v % 10 := Int.tmod_eq_emod_of_nonneg hv.1
  have m1 : (48 + v / 10) % 65536 = 48 + v / 10 := by omega
  have m2 : (48 + v % 10) % 65536 = 48 + v % 10 := by omega
  have fin : ∀ (l1 : List Int) (I1 : Nat → Int → Int), (∀ b, b ≠ 3 → I1 b = I b) → om_ol (I1 3) l1 → l1.length < 650 → l1 ++ [48 + v % 10] = l ++ om_num v → om_R sc (d + 1) 91 18 [.inr (.inl 2), .inl v] [] (om_O s (om_qs q 0 (l1.length : Int)), I1) Q := by
    intro l1 I1 f1 f2 f3 f4
    simp only [x_Ou_writeNumber_18, x_Ou_writeNumber_19, x_Ou_writeNumber_21, x_Ou_writeNumber_22, x_Ou_writeNumber_24, x_Ou_writeNumber_25, x_Ou_writeNumber_26, x_Ou_writeNumber_27, rO_2, t2, m2, Option.toList_some, Option.toList_none, List.cons_append, List.nil_append, List.length_cons, List.length_nil, Nat.reduceAdd, Nat.zero_add, Nat.reduceLeDiff, true_and]
    refine ⟨by decide, ⟨by omega, by omega⟩, ou_sym om_qs_eq f2 f3 (by omega) (fun I2 f5 f6 => ?_)⟩
    simp only [x_Ou_writeNumber_30, Option.toList_some, Option.toList_none, List.cons_append, List.nil_append, List.length_cons, List.length_nil, Nat.reduceAdd, Nat.zero_add, Nat.reduceLeDiff, true_and, om_qs_qs]
    rw [f4] at f6 ⊢
    exact hq I2 (fun b hb => by rw [f5 b hb, f1 b hb]) f6
  simp only [x_Ou_writeNumber_0, x_Ou_writeNumber_1, x_Ou_writeNumber_3]
  by_cases h : v < 10
  · rw [if_pos h]
    have e1 : (om_num v).length = 1 := by unfold om_num; rw [if_neg (by omega)]; rfl
    have h2 := fin l I (fun _ _ => rfl) ho (by omega) (by unfold om_num; rw [if_neg (by omega)]; rfl)
    rw [om_qs_self hl] at h2
    exact h2
  · rw [if_neg h]
    have e1 : (om_num v).length = 2 := by unfold om_num; rw [if_pos (by omega)]; rfl
    simp only [x_Ou_writeNumber_6, x_Ou_writeNumber_7, x_Ou_writeNumber_9, x_Ou_writeNumber_10, x_Ou_writeNumber_12, x_Ou_writeNumber_13, x_Ou_writeNumber_14, x_Ou_writeNumber_15, rO_2, t1, m1, Option.toList_some, Option.toList_none, List.cons_append, List.nil_append, List.length_cons, List.length_nil, Nat.reduceAdd, Nat.zero_add, Nat.reduceLeDiff, true_and]
    refine ⟨by decide, ⟨by omega, by omega⟩, ou_sym hl ho (by omega) (by omega) (fun I1 f1 f2 => ?_)⟩
    simp only [Option.toList_some, Option.toList_none, List.cons_append, List.nil_append, List.length_cons, List.length_nil, Nat.reduceAdd, Nat.zero_add, Nat.reduceLeDiff, true_and]
    exact fin _ I1 f1 f2 (by simp; omega) (by unfold om_num; rw [if_pos (by omega)]; simp)
theorem ou_pow {sc : Int × (Int → Int)} {d : Nat} {s : Int} {q : Nat → Int} {I : Nat → Int → Int} {Q : Option om_V → om_H → Prop} {c n : Int} {l : List Int} (hl : q 0 = l.length) (ho : om_ol (I 3) l) (h6 : l.length + (om_pow c n).length ≤ 650) (hn : 0 ≤ n ∧ n < 100) (hc : 0 ≤ c ∧ c ≤ 65535) (hq : ∀ I', (∀ b, b ≠ 3 → I' b = I b) → om_ol (I' 3) (l ++ om_pow c n) → Q none (om_O s (om_qs q 0 ((l ++ om_pow c n).length : Int)), I')) : om_R sc (d + 2) 92 0 [.inr (.inl 2), .inl c, .inl n] [] (om_O s q, I) Q := by
  simp only [x_Ou_writePower_0, x_Ou_writePower_1]
  by_cases h0 : n ≤ 0
  · rw [if_pos h0]
    simp only [x_Ou_writePower_9, x_Ou_writePower_10, x_Ou_writePower_11, x_Ou_writePower_25]
    rw [if_pos (by omega)]
    have e : om_pow c n = [] := by
      unfold om_pow
      rw [if_neg (by omega), if_neg (by omega)]
      rfl
    have h := hq I (fun _ _ => rfl) (by rw [e, List.append_nil]; exact ho)
    rw [e, List.append_nil, om_qs_self hl] at h
    exact h
  · rw [if_neg h0]
    have e1 : (om_pow c n).length = 1 + (if 1 < n then 1 + (om_num n).length else 0) := by
      unfold om_pow
      rw [if_pos (by omega)]
      split <;> simp <;> omega
    simp only [x_Ou_writePower_4, x_Ou_writePower_5, x_Ou_writePower_6, rO_2, Option.toList_some, Option.toList_none, List.cons_append, List.nil_append, List.length_cons, List.length_nil, Nat.reduceAdd, Nat.zero_add, Nat.reduceLeDiff, true_and]
    refine ou_sym hl ho (by omega) hc (fun I1 f1 f2 => ?_)
    simp only [x_Ou_writePower_9, x_Ou_writePower_10, x_Ou_writePower_11, Option.toList_some, Option.toList_none, List.cons_append, List.nil_append, List.length_cons, List.length_nil, Nat.reduceAdd, Nat.zero_add, Nat.reduceLeDiff, true_and]
    by_cases h1 : n ≤ 1
    · rw [if_pos h1]
      simp only [x_Ou_writePower_25]
      have e : om_pow c n = [c] := by
        unfold om_pow
        rw [if_pos (by omega), if_neg (by omega)]
        rfl
      have h := hq I1 f1 (by rw [e]; exact f2)
      rw [e] at h
      exact h
    · rw [if_neg h1]
      rw [if_pos (by omega)] at e1
      simp only [x_Ou_writePower_14, x_Ou_writePower_15, x_Ou_writePower_17, rO_2, Option.toList_some, Option.toList_none, List.cons_append, List.nil_append, List.length_cons, List.length_nil, Nat.reduceAdd, Nat.zero_add, Nat.reduceLeDiff, true_and]
      refine ou_sym om_qs_eq f2 (by simp; omega) (by decide) (fun I2 f3 f4 => ?_)
      simp only [x_Ou_writePower_20, x_Ou_writePower_21, x_Ou_writePower_22, rO_2, Option.toList_some, Option.toList_none, List.cons_append, List.nil_append, List.length_cons, List.length_nil, Nat.reduceAdd, Nat.zero_add, Nat.reduceLeDiff, true_and, om_qs_qs]
      refine ou_num om_qs_eq f4 (by simp; omega) hn (fun I3 f5 f6 => ?_)
      simp only [x_Ou_writePower_25, Option.toList_some, Option.toList_none, List.cons_append, List.nil_append, List.length_cons, List.length_nil, Nat.reduceAdd, Nat.zero_add, Nat.reduceLeDiff, true_and, om_qs_qs]
      have e : l ++ [c] ++ [94] ++ om_num n = l ++ om_pow c n := by
        unfold om_pow
        rw [if_pos (by omega), if_pos (by omega)]
        simp
      rw [e] at f6 ⊢
      exact hq I3 (fun b hb => by rw [f5 b hb, f3 b hb, f1 b hb]) f6
theorem ou_trm {sc : Int × (Int → Int)} {d : Nat} {s : Int} {q : Nat → Int} {I : Nat → Int → Int} {Q : Option om_V → om_H → Prop} {v k i : Int} {l : List Int} (hl : q 0 = l.length) (ho : om_ol (I 3) l) (h6 : l.length + 10 ≤ 650) (hv : 0 ≤ v ∧ v < 31) (hk : 0 ≤ k ∧ k < 13) (hi : 0 ≤ i ∧ i < 5) (hq : ∀ I', (∀ b, b ≠ 3 → I' b = I b) → om_ol (I' 3) (om_trm l v k i) → Q none (om_O s (om_qs q 0 ((om_trm l v k i).length : Int)), I')) : om_R sc (d + 3) 89 0 [.inr (.inl 2), .inl v, .inl k, .inl i] [] (om_O s q, I) Q := by
  have p1 := om_pow_l 120 k
  have n1 := om_num_l v
  have p3 := om_pow_3 (c := 84) (n := i) (by omega)
  have fin : ∀ (l2 : List Int) (I2 : Nat → Int → Int), (∀ b, b ≠ 3 → I2 b = I b) → om_ol (I2 3) l2 → l2.length ≤ l.length + 3 → l2 ++ om_pow 120 k ++ om_pow 84 i = om_trm l v k i → om_R sc (d + 3) 89 31 [.inr (.inl 2), .inl v, .inl k, .inl i] [] (om_O s (om_qs q 0 (l2.length : Int)), I2) Q := by
    intro l2 I2 f1 f2 f3 f4
    simp only [x_Ou_writeTerm_31, x_Ou_writeTerm_32, x_Ou_writeTerm_34, x_Ou_writeTerm_35, rO_2, Option.toList_some, Option.toList_none, List.cons_append, List.nil_append, List.length_cons, List.length_nil, Nat.reduceAdd, Nat.zero_add, Nat.reduceLeDiff, true_and]
    refine ou_pow om_qs_eq f2 (by omega) (by omega) (by decide) (fun I3 f5 f6 => ?_)
    simp only [x_Ou_writeTerm_38, x_Ou_writeTerm_39, x_Ou_writeTerm_41, x_Ou_writeTerm_42, rO_2, Option.toList_some, Option.toList_none, List.cons_append, List.nil_append, List.length_cons, List.length_nil, Nat.reduceAdd, Nat.zero_add, Nat.reduceLeDiff, true_and, om_qs_qs]
    refine ou_pow om_qs_eq f6 (by simp; omega) (by omega) (by decide) (fun I4 f7 f8 => ?_)
    simp only [x_Ou_writeTerm_45, Option.toList_some, Option.toList_none, List.cons_append, List.nil_append, List.length_cons, List.length_nil, Nat.reduceAdd, Nat.zero_add, Nat.reduceLeDiff, true_and, om_qs_qs]
    rw [f4] at f8 ⊢
    exact hq I4 (fun b hb => by rw [f7 b hb, f5 b hb, f1 b hb]) f8
  have mid : ∀ (l1 : List Int) (I1 : Nat → Int → Int), (∀ b, b ≠ 3 → I1 b = I b) → om_ol (I1 3) l1 → l1.length ≤ l.length + 1 → l1 = l ++ (if l = [] then [] else [43]) → om_R sc (d + 3) 89 13 [.inr (.inl 2), .inl v, .inl k, .inl i] [] (om_O s (om_qs q 0 (l1.length : Int)), I1) Q := by
    intro l1 I1 f1 f2 f3 f4
    have wr : (v ≠ 1 ∨ k + i = 0) → om_R sc (d + 3) 89 26 [.inr (.inl 2), .inl v, .inl k, .inl i] [] (om_O s (om_qs q 0 (l1.length : Int)), I1) Q := by
      intro hc
      simp only [x_Ou_writeTerm_26, x_Ou_writeTerm_27, x_Ou_writeTerm_28, rO_2, Option.toList_some, Option.toList_none, List.cons_append, List.nil_append, List.length_cons, List.length_nil, Nat.reduceAdd, Nat.zero_add, Nat.reduceLeDiff, true_and]
      refine ou_num om_qs_eq f2 (by omega) (by omega) (fun I2 f5 f6 => ?_)
      simp only [Option.toList_some, Option.toList_none, List.cons_append, List.nil_append, List.length_cons, List.length_nil, Nat.reduceAdd, Nat.zero_add, Nat.reduceLeDiff, true_and, om_qs_qs]
      exact fin _ I2 (fun b hb => by rw [f5 b hb, f1 b hb]) f6 (by simp; omega) (by unfold om_trm; rw [if_pos hc, ← f4])
    have nw : ¬ (v ≠ 1 ∨ k + i = 0) → om_R sc (d + 3) 89 31 [.inr (.inl 2), .inl v, .inl k, .inl i] [] (om_O s (om_qs q 0 (l1.length : Int)), I1) Q := by
      intro hc
      exact fin l1 I1 f1 f2 (by omega) (by unfold om_trm; rw [if_neg hc, ← f4, List.append_nil])
    simp only [x_Ou_writeTerm_13, x_Ou_writeTerm_14, x_Ou_writeTerm_15]
    by_cases h1 : v = 1
    · rw [if_pos h1]
      simp only [x_Ou_writeTerm_18, x_Ou_writeTerm_19]
      by_cases h2 : k = 0
      · rw [if_pos h2]
        simp only [x_Ou_writeTerm_22, x_Ou_writeTerm_23]
        by_cases h3 : i = 0
        · rw [if_pos h3]
          exact wr (by omega)
        · rw [if_neg h3]
          exact nw (by omega)
      · rw [if_neg h2]
        exact nw (by omega)
    · rw [if_neg h1]
      exact wr (by omega)
  simp only [x_Ou_writeTerm_0, x_Ou_writeTerm_1, x_Ou_writeTerm_4, gO_2_1]
  by_cases h0 : q 0 ≤ 0
  · rw [if_pos h0]
    have el : l = [] := List.eq_nil_of_length_eq_zero (by omega)
    have h := mid l I (fun _ _ => rfl) ho (by omega) (by rw [el]; rfl)
    rw [om_qs_self hl] at h
    exact h
  · rw [if_neg h0]
    have el : ¬ l = [] := fun e => h0 (by rw [hl, e]; decide)
    simp only [x_Ou_writeTerm_7, x_Ou_writeTerm_8, x_Ou_writeTerm_10, rO_2, Option.toList_some, Option.toList_none, List.cons_append, List.nil_append, List.length_cons, List.length_nil, Nat.reduceAdd, Nat.zero_add, Nat.reduceLeDiff, true_and]
    refine ou_sym hl ho (by omega) (by decide) (fun I1 f1 f2 => ?_)
    simp only [Option.toList_some, Option.toList_none, List.cons_append, List.nil_append, List.length_cons, List.length_nil, Nat.reduceAdd, Nat.zero_add, Nat.reduceLeDiff, true_and]
    exact mid _ I1 f1 f2 (by simp) (by rw [if_neg el])
/-- the terms of row i from column k - 1 down, of all rows from i - 1 down -/
def om_shk (A : Int → Int → Int) (i : Int) : Nat → List Int → List Int
  | 0, l => l
  | k + 1, l => om_shk A i k (if A i k = 0 then l else om_trm l (A i k) k i)
def om_shi (A : Int → Int → Int) : Nat → List Int → List Int
  | 0, l => l
  | i + 1, l => om_shi A i (om_shk A i 13 l)
def om_shw (A : Int → Int → Int) : List Int := if om_shi A 5 [] = [] then [48] else om_shi A 5 []
theorem om_shk_l {A : Int → Int → Int} {i : Int} (hi : i < 10) : ∀ (k : Nat) (l : List Int), (om_shk A i k l).length ≤ l.length + 10 * k
  | 0, l => by simp [om_shk]
  | k + 1, l => by
    unfold om_shk
    have h1 := om_shk_l (A := A) hi k (if A i k = 0 then l else om_trm l (A i k) k i)
    have h2 := om_trm_l l (A i k) k hi
    by_cases hc : A i k = 0
    · rw [if_pos hc] at h1 ⊢
      omega
    · rw [if_neg hc] at h1 ⊢
      omega
theorem ou_shk {sc : Int × (Int → Int)} {d : Nat} {s : Int} {q : Nat → Int} {Q : Option om_V → om_H → Prop} {a c : Nat} {i : Int} (ha : om_op (om_O s q) a c 5 13) (hops : ∀ v, om_op (om_O s (om_qs q 0 v)) a c 5 13) (hc3 : c ≠ 3) (hi : 0 ≤ i ∧ i < 5) {A : Int → Int → Int} (rA : om_r31 A) (K : List Int → (Nat → Int → Int) → Prop) (hK : ∀ l I', K l I' → om_R sc (d + 4) 88 45 [.inr (.inl 2), .inr (.inl a), .inl i, .inl (-1)] [] (om_O s (om_qs q 0 (l.length : Int)), I') Q) : ∀ (k : Nat) (l : List Int) (I : Nat → Int → Int), k ≤ 13 → l.length + 10 * k ≤ 650 → om_tb 5 13 (I c) = A → om_ol (I 3) l → (∀ I', (∀ b, b ≠ 3 → I' b = I b) → om_ol (I' 3) (om_shk A i k l) → K (om_shk A i k l) I') → om_R sc (d + 4) 88 14 [.inr (.inl 2), .inr (.inl a), .inl i, .inl ((k : Int) - 1)] [] (om_O s (om_qs q 0 (l.length : Int)), I) Q := by
  intro k
  induction k with
  | zero =>
    intro l I h1 h2 hA ho hq
    simp only [x_Ou_write_14, x_Ou_write_15]
    rw [if_pos (by omega)]
    have h := hK l I (hq I (fun _ _ => rfl) ho)
    simpa using h
  | succ k ih =>
    intro l I h1 h2 hA ho hq
    have em : ((k + 1 : Nat) : Int) - 1 = k := by omega
    have ga := (om_op_g (hops (l.length : Int))).2.2.2
    rw [em]
    simp only [x_Ou_write_14, x_Ou_write_15]
    rw [if_neg (by omega)]
    simp only [x_Ou_write_18, x_Ou_write_19, x_Ou_write_20, x_Ou_write_21, ga, Option.toList_some, Option.toList_none, List.cons_append, List.nil_append, List.length_cons, List.length_nil, Nat.reduceAdd, Nat.zero_add, Nat.reduceLeDiff, true_and]
    refine op_get (hops _) ?_
    rw [hA]
    simp only [x_Ou_write_24, Option.toList_some, Option.toList_none, List.cons_append, List.nil_append, List.length_cons, List.length_nil, Nat.reduceAdd, Nat.zero_add, Nat.reduceLeDiff, true_and]
    unfold om_shk at hq
    by_cases hz : A i k = 0
    · rw [if_pos hz]
      rw [if_pos hz] at hq
      simp only [x_Ou_write_39, x_Ou_write_42]
      exact ⟨⟨by omega, by omega⟩, ih l I (by omega) (by omega) hA ho hq⟩
    · rw [if_neg hz]
      rw [if_neg hz] at hq
      simp only [x_Ou_write_27, x_Ou_write_28, x_Ou_write_29, x_Ou_write_30, x_Ou_write_31, ga, Option.toList_some, Option.toList_none, List.cons_append, List.nil_append, List.length_cons, List.length_nil, Nat.reduceAdd, Nat.zero_add, Nat.reduceLeDiff, true_and]
      refine op_get (hops _) ?_
      rw [hA]
      simp only [x_Ou_write_34, x_Ou_write_35, x_Ou_write_36, rO_2, Option.toList_some, Option.toList_none, List.cons_append, List.nil_append, List.length_cons, List.length_nil, Nat.reduceAdd, Nat.zero_add, Nat.reduceLeDiff, true_and]
      refine ou_trm om_qs_eq ho (by omega) (rA i k) (by omega) hi (fun I1 f1 f2 => ?_)
      have tl := om_trm_l l (A i k) k (i := i) (by omega)
      simp only [x_Ou_write_39, x_Ou_write_42, Option.toList_some, Option.toList_none, List.cons_append, List.nil_append, List.length_cons, List.length_nil, Nat.reduceAdd, Nat.zero_add, Nat.reduceLeDiff, true_and, om_qs_qs]
      exact ⟨⟨by omega, by omega⟩, ih _ I1 (by omega) (by omega) (by rw [f1 c hc3]; exact hA) f2 (fun I' f3 f4 => hq I' (fun b hb => by rw [f3 b hb, f1 b hb]) f4)⟩
theorem ou_shi {sc : Int × (Int → Int)} {d : Nat} {s : Int} {q : Nat → Int} {Q : Option om_V → om_H → Prop} {a c : Nat} (ha : om_op (om_O s q) a c 5 13) (hops : ∀ v, om_op (om_O s (om_qs q 0 v)) a c 5 13) (hc3 : c ≠ 3) {A : Int → Int → Int} (rA : om_r31 A) : ∀ (i : Nat) (x : om_V) (l : List Int) (I : Nat → Int → Int), i ≤ 5 → l.length + 130 * i ≤ 650 → om_tb 5 13 (I c) = A → om_ol (I 3) l → (∀ I', (∀ b, b ≠ 3 → I' b = I b) → om_ol (I' 3) (if om_shi A i l = [] then [48] else om_shi A i l) → Q none (om_O s (om_qs q 0 ((if om_shi A i l = [] then [48] else om_shi A i l).length : Int)), I')) → om_R sc (d + 4) 88 7 [.inr (.inl 2), .inr (.inl a), .inl ((i : Int) - 1), x] [] (om_O s (om_qs q 0 (l.length : Int)), I) Q := by
  intro i
  induction i with
  | zero =>
    intro x l I h1 h2 hA ho hq
    simp only [x_Ou_write_7, x_Ou_write_8]
    rw [if_pos (by omega)]
    simp only [x_Ou_write_51, x_Ou_write_52, x_Ou_write_55, gO_2_1, om_qs_eq]
    unfold om_shi at hq
    by_cases hl : l = []
    · subst hl
      simp only [List.length_nil, Int.ofNat_zero, Int.cast_ofNat_Int, if_true] at hq ⊢
      simp only [x_Ou_write_58, x_Ou_write_59, x_Ou_write_61, rO_2, Option.toList_some, Option.toList_none, List.cons_append, List.nil_append, List.length_cons, List.length_nil, Nat.reduceAdd, Nat.zero_add, Nat.reduceLeDiff, true_and]
      refine ou_sym (l := []) om_qs_eq ho (by decide) (by decide) (fun I1 f1 f2 => ?_)
      simp only [x_Ou_write_64, Option.toList_some, Option.toList_none, List.cons_append, List.nil_append, List.length_cons, List.length_nil, Nat.reduceAdd, Nat.zero_add, Nat.reduceLeDiff, true_and, om_qs_qs]
      exact hq I1 f1 f2
    · rw [if_neg hl] at hq
      rw [if_neg (by
        intro e
        exact hl (List.eq_nil_of_length_eq_zero (by omega)))]
      simp only [x_Ou_write_64]
      exact hq I (fun _ _ => rfl) ho
  | succ i ih =>
    intro x l I h1 h2 hA ho hq
    have em : ((i + 1 : Nat) : Int) - 1 = i := by omega
    rw [em]
    simp only [x_Ou_write_7, x_Ou_write_8, x_Ou_write_11, x_Ou_write_13]
    rw [if_neg (by omega)]
    have kl := om_shk_l (A := A) (i := i) (by omega) 13 l
    have h := ou_shk (sc := sc) (d := d) (s := s) (q := q) (Q := Q) ha hops hc3 (i := i) (by omega) rA (fun l1 I1 => l1 = om_shk A i 13 l ∧ (∀ b, b ≠ 3 → I1 b = I b) ∧ om_ol (I1 3) l1) (fun l1 I1 ⟨g0, g1, g2⟩ => ?_) 13 l I (by omega) (by omega) hA ho (fun I1 f1 f2 => ⟨rfl, f1, f2⟩)
    · simpa using h
    · simp only [x_Ou_write_45, x_Ou_write_48]
      refine ⟨⟨by omega, by omega⟩, ih _ l1 I1 (by omega) (by rw [g0]; omega) (by rw [g1 c hc3]; exact hA) g2 (fun I' f3 f4 => ?_)⟩
      rw [g0] at f4 ⊢
      exact hq I' (fun b hb => by rw [f3 b hb, g1 b hb]) f4
theorem or_show {sc : Int × (Int → Int)} {d : Nat} {s : Int} {q : Nat → Int} {I : Nat → Int → Int} {Q : Option om_V → om_H → Prop} {r : Int} (rA : ∀ r, 0 ≤ r → r < 8 → om_r31 (om_cr I r)) (h0 : ¬ (0 ≤ r ∧ r < 8) → Q (some (.inl (-1))) (om_O s q, I)) (h1 : 0 ≤ r ∧ r < 8 → ∀ I', (∀ b, b ≠ 3 → I' b = I b) → om_ol (I' 3) (om_shw (om_cr I r)) → Q (some (.inl ((om_shw (om_cr I r)).length : Int))) (om_O s (om_qs q 0 ((om_shw (om_cr I r)).length : Int)), I')) : om_R sc (d + 5) 87 0 [.inr (.inl 0), .inl r] [] (om_O s q, I) Q := by
  have n10 : ¬ (1 : Int) = 0 := by decide
  simp only [x_Or_show_0, x_Or_show_1, Option.toList_some, Option.toList_none, List.cons_append, List.nil_append, List.length_cons, List.length_nil, Nat.reduceAdd, Nat.zero_add, Nat.reduceLeDiff, true_and]
  refine or_isRegister (fun hr => ?_) (fun hr => ?_)
  · simp only [x_Or_show_4, x_Or_show_7, x_Or_show_8, x_Or_show_9, x_Or_show_10, x_Or_show_13, x_Or_show_14, x_Or_show_17, x_Or_show_18, x_Or_show_19, Option.toList_some, Option.toList_none, List.cons_append, List.nil_append, List.length_cons, List.length_nil, Nat.reduceAdd, Nat.zero_add, Nat.reduceLeDiff, true_and, if_neg n10, gO_0_0, gO_0_7, kO_reg hr.1 hr.2, rO_2]
    simp only [x_Ou_write_0, x_Ou_write_1, x_Ou_write_2, pO_2_1 88 0 rfl]
    simp only [x_Ou_write_5, x_Ou_write_6]
    have h := ou_shi (sc := sc) (d := d) (s := s) (q := q) (Q := fun v h' => om_R sc (d + 5) 87 22 [.inr (.inl 0), .inl r] (v.toList ++ []) h' Q) (or_reg hr) (fun v => or_reg hr) (by unfold om_ca; omega) (rA r hr.1 hr.2) 5 om_un [] I (by omega) (by decide) rfl (fun z hz => absurd hz (by simp)) (fun I' f1 f2 => ?_)
    · simpa using h
    · simp only [x_Or_show_22, x_Or_show_23, x_Or_show_26, x_Or_show_29, Option.toList_some, Option.toList_none, List.cons_append, List.nil_append, List.length_cons, List.length_nil, Nat.reduceAdd, Nat.zero_add, Nat.reduceLeDiff, true_and, gO_0_7, gO_2_1, om_qs_eq]
      exact h1 hr I' f1 f2
  · simp only [x_Or_show_4, x_Or_show_7, x_Or_show_8, Option.toList_some, Option.toList_none, List.cons_append, List.nil_append, List.length_cons, List.length_nil, Nat.reduceAdd, Nat.zero_add, Nat.reduceLeDiff, true_and, if_true]
    exact h0 hr
