/-! operators of the class: copies, rows times tables -/
theorem om_tb_cpy {o w o2 w2 : Int} {f g : Int → Int} {i n : Int} (h1 : 0 ≤ i) (h2 : i < o) (h3 : i < o2) (h4 : 0 ≤ n) (h5 : n ≤ w) (h6 : n ≤ w2) (i' k' : Int) : om_tb o w (om_cpy f g (i * w2) (i * w) n) i' k' = if i' = i ∧ 0 ≤ k' ∧ k' < n then om_tb o2 w2 f i k' else om_tb o w g i' k' := by
  by_cases hin : 0 ≤ i' ∧ i' < o ∧ 0 ≤ k' ∧ k' < w
  · rw [om_tb_in hin.1 hin.2.1 hin.2.2.1 hin.2.2.2, om_tb_in hin.1 hin.2.1 hin.2.2.1 hin.2.2.2]
    unfold om_cpy
    by_cases hc : i' = i ∧ 0 ≤ k' ∧ k' < n
    · obtain ⟨rfl, hc⟩ := hc
      rw [if_pos (by omega), if_pos ⟨rfl, hc⟩, om_tb_in (by omega) (by omega) (by omega) (by omega)]
      congr 1
      omega
    · rw [if_neg hc, if_neg]
      intro q
      apply hc
      have e : i' = i := by
        rcases Int.lt_trichotomy i' i with q1 | q1 | q1
        · have a2 : (i' + 1) * w ≤ i * w := Int.mul_le_mul_of_nonneg_right (by omega) (by omega)
          rw [Int.add_mul] at a2
          omega
        · exact q1
        · have a2 : (i + 1) * w ≤ i' * w := Int.mul_le_mul_of_nonneg_right (by omega) (by omega)
          rw [Int.add_mul] at a2
          omega
      subst e
      omega
  · rw [om_tb_out hin, om_tb_out hin, if_neg (by omega)]
theorem op_become_l {sc : Int × (Int → Int)} {d : Nat} {O : List (Nat × Nat × List om_V)} {Q : Option om_V → om_H → Prop} {a c a2 c2 : Nat} {o w o2 w2 r n : Int} (ho : om_op O a c o w) (ho2 : om_op O a2 c2 o2 w2) (hne : c2 ≠ c) (hr : r = if o ≤ o2 then o else o2) (hn : n = if w ≤ w2 then w else w2) : ∀ (m : Nat) (i : Int) (I : Nat → Int → Int), i + m = r → 0 ≤ i → (∀ i' k', om_tb o w (I c) i' k' = if i' < i ∧ i' < o ∧ k' < w then om_tb o2 w2 (I c2) i' k' else 0) → (∀ I', (∀ b, b ≠ c → I' b = I b) → (∀ i' k', om_tb o w (I' c) i' k' = if i' < o ∧ k' < w then om_tb o2 w2 (I c2) i' k' else 0) → Q none (O, I')) → om_R sc d 32 35 [.inr (.inl a), .inr (.inl a2), .inl r, .inl n, .inl i] [] (O, I) Q := by
  obtain ⟨g0, g1, g2, gr⟩ := om_op_g ho
  obtain ⟨e0, e1, e2, er⟩ := om_op_g ho2
  obtain ⟨p1, p2, p3, p4, p5, p6⟩ := ho
  obtain ⟨s1, s2, s3, s4, s5, s6⟩ := ho2
  have hr1 : r ≤ o ∧ r ≤ o2 ∧ 0 < r ∧ (r = o ∨ r = o2) := by
    rw [hr]
    split <;> omega
  have hn1 : n ≤ w ∧ n ≤ w2 ∧ 0 < n ∧ (n = w ∨ n = w2) := by
    rw [hn]
    split <;> omega
  intro m
  induction m with
  | zero =>
    intro i I h1 h2 hI hq
    simp only [x_Op_become_35, x_Op_become_37, x_Op_become_38, x_Op_become_73]
    rw [if_pos (by omega)]
    refine hq I (fun _ _ => rfl) (fun i' k' => ?_)
    rw [hI i' k']
    by_cases hc : i' < i
    · by_cases hc2 : i' < o ∧ k' < w
      · rw [if_pos ⟨hc, hc2⟩, if_pos hc2]
      · rw [if_neg (fun q => hc2 q.2), if_neg hc2]
    · rw [if_neg (fun q => hc q.1)]
      by_cases hc2 : i' < o ∧ k' < w
      · rw [if_pos hc2, om_tb_out (by omega)]
      · rw [if_neg hc2]
  | succ m ih =>
    intro i I h1 h2 hI hq
    obtain ⟨b1, b2, b3⟩ := om_ixb (o := o) (w := w) (i := i) (k := w - 1) (by omega) (by omega) (by omega) (by omega) p4 p6
    obtain ⟨c1, c2', c3⟩ := om_ixb (o := o2) (w := w2) (i := i) (k := w2 - 1) (by omega) (by omega) (by omega) (by omega) s4 s6
    simp only [x_Op_become_35, x_Op_become_37, x_Op_become_38]
    rw [if_neg (by omega)]
    simp only [x_Op_become_41, x_Op_become_42, x_Op_become_45, x_Op_become_47, x_Op_become_48, x_Op_become_51, x_Op_become_52, x_Op_become_53, x_Op_become_56, x_Op_become_58, x_Op_become_59, x_Op_become_62, x_Op_become_63, x_Op_become_64, x_Op_become_67, x_Op_become_70, g1, g2, e1, e2, om_ac_eq p2 s2, Option.toList_some, Option.toList_none, List.cons_append, List.nil_append, List.length_cons, List.length_nil, Nat.reduceAdd, Nat.zero_add, Nat.reduceLeDiff, true_and]
    refine ⟨⟨by omega, by omega⟩, ⟨by omega, by omega⟩, ⟨by omega, by omega, by omega, by omega, by omega⟩, ⟨by omega, by omega⟩, ih _ _ (by omega) (by omega) (fun i' k' => ?_) (fun I' f1 f2 => hq I' (fun b hb => by rw [f1 b hb, om_u_ne hb]) (fun i' k' => ?_))⟩
    · rw [om_u_eq, om_u_ne hne, om_tb_cpy (o2 := o2) (by omega) (by omega) (by omega) (by omega) (by omega) (by omega), hI i' k']
      by_cases hc : i' = i
      · by_cases hk : 0 ≤ k' ∧ k' < n
        · rw [if_pos ⟨hc, hk⟩, if_pos (by omega), hc]
        · rw [if_neg (fun q => hk q.2), if_neg (by omega)]
          by_cases hk2 : i' < i + 1 ∧ i' < o ∧ k' < w
          · rw [if_pos hk2, om_tb_out (by omega)]
          · rw [if_neg hk2]
      · rw [if_neg (fun q => hc q.1)]
        by_cases hk2 : i' < i ∧ i' < o ∧ k' < w
        · rw [if_pos hk2, if_pos (by omega)]
        · rw [if_neg hk2, if_neg (by omega)]
    · rw [f2 i' k', om_u_ne hne]
theorem op_become {sc : Int × (Int → Int)} {d : Nat} {O : List (Nat × Nat × List om_V)} {I : Nat → Int → Int} {Q : Option om_V → om_H → Prop} {a c a2 c2 : Nat} {o w o2 w2 : Int} (ho : om_op O a c o w) (ho2 : om_op O a2 c2 o2 w2) (hne : c2 ≠ c) (hq : ∀ I', (∀ b, b ≠ c → I' b = I b) → (∀ i' k', om_tb o w (I' c) i' k' = if i' < o ∧ k' < w then om_tb o2 w2 (I c2) i' k' else 0) → Q none (O, I')) : om_R sc (d + 1) 32 0 [.inr (.inl a), .inr (.inl a2), om_un, om_un, om_un] [] (O, I) Q := by
  obtain ⟨g0, g1, g2, gr⟩ := om_op_g ho
  obtain ⟨e0, e1, e2, er⟩ := om_op_g ho2
  obtain ⟨p1, p2, p3, p4, p5, p6⟩ := id ho
  obtain ⟨s1, s2, s3, s4, s5, s6⟩ := id ho2
  have hb : o * w ≤ 100 * 100 := Int.mul_le_mul p4 p6 (by omega) (by omega)
  simp only [x_Op_become_0, x_Op_become_1, x_Op_become_4, x_Op_become_5, x_Op_become_8, x_Op_become_11, x_Op_become_12, x_Op_become_13, x_Op_become_16, x_Op_become_17, x_Op_become_20, x_Op_become_23, x_Op_become_24, x_Op_become_25, x_Op_become_28, x_Op_become_29, g0, g1, g2, e0, e1, Option.toList_some, Option.toList_none, List.cons_append, List.nil_append, List.length_cons, List.length_nil, Nat.reduceAdd, Nat.zero_add, Nat.reduceLeDiff, true_and]
  refine ja_fill p2 (by omega) (fun I1 f1 f2 => ?_)
  simp only [x_Op_become_32, x_Op_become_33, Option.toList_some, Option.toList_none, List.cons_append, List.nil_append, List.length_cons, List.length_nil, Nat.reduceAdd, Nat.zero_add, Nat.reduceLeDiff, true_and]
  have hz : om_tb o w (I1 c) = fun _ _ => 0 := om_tb_z p3 p5 (fun z z1 z2 => by rw [f2 z, if_pos (by omega)])
  refine op_become_l ho ho2 hne rfl rfl (if o ≤ o2 then o else o2).toNat 0 I1 (by split <;> omega) (by omega) (fun i' k' => ?_) (fun I' f3 f4 => hq I' (fun b hb => by rw [f3 b hb, f1 b hb]) (fun i' k' => ?_))
  · rw [hz]
    by_cases hc : i' < 0 ∧ i' < o ∧ k' < w
    · rw [if_pos hc, om_tb_out (by omega)]
    · rw [if_neg hc]
  · rw [f4 i' k', f1 c2 hne]
/-- sums -/
def om_sm (f : Int → Int) : Nat → Int
  | 0 => 0
  | n + 1 => om_sm f n + f n
theorem om_sm_0 {f : Int → Int} : ∀ {n : Nat}, (∀ k : Int, 0 ≤ k → k < n → f k = 0) → om_sm f n = 0
  | 0, _ => rfl
  | n + 1, h => by
    have h1 := om_sm_0 (f := f) (n := n) (fun k q1 q2 => h k q1 (by omega))
    have h2 := h n (by omega) (by omega)
    show om_sm f n + f n = 0
    omega
theorem om_sm_c {f g : Int → Int} : ∀ {n : Nat}, (∀ k : Int, 0 ≤ k → k < n → f k = g k) → om_sm f n = om_sm g n
  | 0, _ => rfl
  | n + 1, h => by
    have h1 := om_sm_c (f := f) (g := g) (n := n) (fun k q1 q2 => h k q1 (by omega))
    have h2 := h n (by omega) (by omega)
    show om_sm f n + f n = om_sm g n + g n
    omega
/-- innermost: row j of this operator gets c times row j of the other, k places on -/
theorem op_prt_l {sc : Int × (Int → Int)} {d : Nat} {O : List (Nat × Nat × List om_V)} {Q : Option om_V → om_H → Prop} {a c a1 aw cw : Nat} {o w ow ww i t k rows cc cols j : Int} (ho : om_op O a c o w) (how : om_op O aw cw ow ww) (hne : cw ≠ c) (hk : 0 ≤ k ∧ k ≤ 100) (hj : 0 ≤ j ∧ j < o ∧ j < ow) (hcc : 0 ≤ cc ∧ cc < 31) (hcols : cols ≤ w - k ∧ cols ≤ ww) {A W : Int → Int → Int} (hA : om_r31 A) (hW : om_r31 W) (K : (Nat → Int → Int) → Prop) (hK : ∀ I' (y z : om_V), K I' → om_R sc d 37 160 [.inr (.inl a), .inr (.inl a1), .inl i, .inl t, .inr (.inl aw), .inl rows, .inl k, .inl cc, .inl cols, .inl j, y, z] [] (O, I') Q) : ∀ (m : Nat) (l : Int) (x : om_V) (I : Nat → Int → Int), (cols ≤ l ∧ m = 0 ∨ l + m = cols) → 0 ≤ l → (∀ i' k', om_tb ow ww (I cw) i' k' = W i' k') → (∀ i' k', om_tb o w (I c) i' k' = if i' = j ∧ k ≤ k' ∧ k' < k + l then (A j k' + cc * W j (k' - k)) % 31 else A i' k') → (∀ I', (∀ b, b ≠ c → I' b = I b) → (∀ i' k', om_tb o w (I' c) i' k' = if i' = j ∧ k ≤ k' ∧ k' < k + (if l ≤ cols then cols else l) then (A j k' + cc * W j (k' - k)) % 31 else A i' k') → K I') → om_R sc d 37 94 [.inr (.inl a), .inr (.inl a1), .inl i, .inl t, .inr (.inl aw), .inl rows, .inl k, .inl cc, .inl cols, .inl j, .inl l, x] [] (O, I) Q := by
  obtain ⟨g0, g1, g2, gr⟩ := om_op_g ho
  obtain ⟨e0, e1, e2, er⟩ := om_op_g how
  obtain ⟨p1, p2, p3, p4, p5, p6⟩ := ho
  obtain ⟨s1, s2, s3, s4, s5, s6⟩ := how
  intro m
  induction m with
  | zero =>
    intro l x I h1 h2 hWI hI hq
    simp only [x_Op_plusRowTimes_94, x_Op_plusRowTimes_96, x_Op_plusRowTimes_98]
    rw [if_pos (by omega)]
    refine hK I _ _ (hq I (fun _ _ => rfl) (fun i' k' => ?_))
    rw [hI i' k', show (if l ≤ cols then cols else l) = l by split <;> omega]
  | succ m ih =>
    intro l x I h1 h2 hWI hI hq
    obtain ⟨b1, b2, b3⟩ := om_ixb (o := o) (w := w) (i := j) (k := k + l) (by omega) (by omega) (by omega) (by omega) p4 p6
    obtain ⟨c1, c2', c3⟩ := om_ixb (o := ow) (w := ww) (i := j) (k := l) (by omega) (by omega) (by omega) (by omega) s4 s6
    have q1 : I c (j * w + k + l) = A j (k + l) := by rw [show j * w + k + l = j * w + (k + l) by omega, om_tb_get (w := w) (f := I c) (i := j) (k := k + l) (o := o) (by omega) (by omega) (by omega) (by omega), hI j (k + l), if_neg (by omega)]
    have q2 : I cw (j * ww + l) = W j l := by rw [om_tb_get (w := ww) (f := I cw) (i := j) (k := l) (o := ow) (by omega) (by omega) (by omega) (by omega), hWI j l]
    obtain ⟨a3, a4⟩ := hA j (k + l)
    obtain ⟨a5, a6⟩ := hW j l
    obtain ⟨a7, a8⟩ := om_mb (t := cc) (T := 30) (by omega) (by omega) a5 a6
    have a9 : 0 ≤ cc * W j l := Int.mul_nonneg (by omega) a5
    simp only [x_Op_plusRowTimes_94, x_Op_plusRowTimes_96, x_Op_plusRowTimes_98]
    rw [if_neg (by omega)]
    simp only [x_Op_plusRowTimes_101, x_Op_plusRowTimes_103, x_Op_plusRowTimes_104, x_Op_plusRowTimes_107, x_Op_plusRowTimes_108, x_Op_plusRowTimes_110, x_Op_plusRowTimes_111, x_Op_plusRowTimes_113, x_Op_plusRowTimes_114, x_Op_plusRowTimes_116, x_Op_plusRowTimes_117, x_Op_plusRowTimes_120, x_Op_plusRowTimes_122, x_Op_plusRowTimes_123, x_Op_plusRowTimes_126, x_Op_plusRowTimes_128, x_Op_plusRowTimes_129, x_Op_plusRowTimes_131, x_Op_plusRowTimes_133, x_Op_plusRowTimes_136, x_Op_plusRowTimes_138, x_Op_plusRowTimes_140, x_Op_plusRowTimes_143, x_Op_plusRowTimes_144, x_Op_plusRowTimes_146, x_Op_plusRowTimes_147, x_Op_plusRowTimes_148, x_Op_plusRowTimes_149, x_Op_plusRowTimes_150, x_Op_plusRowTimes_152, x_Op_plusRowTimes_153, x_Op_plusRowTimes_154, x_Op_plusRowTimes_157, g1, g2, e1, e2, om_ab_eq p2, om_ab_eq s2, q1, q2]
    refine ⟨⟨by omega, by omega⟩, ⟨by omega, by omega⟩, ⟨by omega, by omega⟩, ⟨by omega, by omega⟩, ⟨by omega, by omega⟩, ⟨by omega, by omega⟩, ⟨by omega, by omega⟩, ⟨by omega, by omega⟩, ⟨by omega, by omega⟩, by decide, ⟨by omega, by omega⟩, ⟨by omega, by omega⟩, ih _ _ _ (by omega) (by omega) (fun i' k' => ?_) (fun i' k' => ?_) (fun I' f1 f2 => hq I' (fun b hb => by rw [f1 b hb, om_u_ne hb]) (fun i' k' => ?_))⟩
    · rw [om_u_ne hne]; exact hWI i' k'
    · rw [om_u_eq, show j * w + k + l = j * w + (k + l) by omega, om_tb_p (by omega) (by omega) (by omega) (by omega), om_tm0 (by omega), hI i' k']
      by_cases hc : i' = j ∧ k' = k + l
      · rw [if_pos hc, if_pos (by omega), hc.2, show k + l - k = l by omega]
      · rw [if_neg hc]
        by_cases hc2 : i' = j ∧ k ≤ k' ∧ k' < k + l
        · rw [if_pos hc2, if_pos (by omega)]
        · rw [if_neg hc2, if_neg (by omega)]
    · rw [f2 i' k', show (if l + 1 ≤ cols then cols else l + 1) = (if l ≤ cols then cols else l) by split <;> split <;> omega]
