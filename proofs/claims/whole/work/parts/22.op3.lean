/-! operators of the class: derivatives, shifts, T before them -/
theorem om_tb_get {o w i k : Int} {f : Int → Int} (h1 : 0 ≤ i) (h2 : i < o) (h3 : 0 ≤ k) (h4 : k < w) : f (i * w + k) = om_tb o w f i k := (om_tb_in h1 h2 h3 h4).symm
theorem op_deriveRow_l {sc : Int × (Int → Int)} {d : Nat} {O : List (Nat × Nat × List om_V)} {Q : Option om_V → om_H → Prop} {a c : Nat} {o w i : Int} (ho : om_op O a c o w) (hi : 0 ≤ i ∧ i < o) {A : Int → Int → Int} (hA : om_r31 A) (hAo : ∀ i' k', ¬ (0 ≤ i' ∧ i' < o ∧ 0 ≤ k' ∧ k' < w) → A i' k' = 0) : ∀ (m : Nat) (k : Int) (x : om_V) (I : Nat → Int → Int), k + m = w → 0 ≤ k → (∀ i' k', om_tb o w (I c) i' k' = if i' = i ∧ 0 ≤ k' ∧ k' < k then ((k' + 1) * A i (k' + 1)) % 31 else A i' k') → (∀ I', (∀ b, b ≠ c → I' b = I b) → (∀ i' k', om_tb o w (I' c) i' k' = if i' = i ∧ 0 ≤ k' ∧ k' < w then ((k' + 1) * A i (k' + 1)) % 31 else A i' k') → Q none (O, I')) → om_R sc d 39 9 [.inr (.inl a), .inl i, .inl (i * w), .inl k, x] [] (O, I) Q := by
  obtain ⟨g0, g1, g2, gr⟩ := om_op_g ho
  obtain ⟨p1, p2, p3, p4, p5, p6⟩ := ho
  intro m
  induction m with
  | zero =>
    intro k x I h1 h2 hI hq
    simp only [x_Op_deriveRow_9, x_Op_deriveRow_10, x_Op_deriveRow_11, x_Op_deriveRow_14, x_Op_deriveRow_66, g1]
    rw [if_pos (by omega)]
    have hk : k = w := by omega
    subst hk
    exact hq I (fun _ _ => rfl) hI
  | succ m ih =>
    intro k x I h1 h2 hI hq
    obtain ⟨b1, b2, b3⟩ := om_ixb (o := o) (w := w) (i := i) (k := k) hi.1 hi.2 (by omega) (by omega) p4 p6
    have fin : ∀ v : Int, v = A i (k + 1) → om_R sc d 39 43 [.inr (.inl a), .inl i, .inl (i * w), .inl k, .inl v] [] (O, I) Q := by
      intro v hv
      obtain ⟨a1, a2⟩ := hA i (k + 1)
      obtain ⟨a3, a4⟩ := om_mb (t := k + 1) (T := 101) (by omega) (by omega) a1 a2
      rw [← hv] at a1 a2 a3 a4
      have hnn : 0 ≤ (k + 1) * v := Int.mul_nonneg (by omega) a1
      simp only [x_Op_deriveRow_43, x_Op_deriveRow_44, x_Op_deriveRow_47, x_Op_deriveRow_48, x_Op_deriveRow_49, x_Op_deriveRow_50, x_Op_deriveRow_51, x_Op_deriveRow_52, x_Op_deriveRow_53, x_Op_deriveRow_55, x_Op_deriveRow_56, x_Op_deriveRow_58, x_Op_deriveRow_59, x_Op_deriveRow_60, x_Op_deriveRow_63, g2, om_ab_eq p2]
      refine ⟨⟨by omega, by omega⟩, ⟨by omega, by omega⟩, ⟨by omega, by omega⟩, by decide, ⟨by omega, by omega⟩, ⟨by omega, by omega⟩, ih _ _ _ (by omega) (by omega) (fun i' k' => ?_) (fun I' f1 f2 => hq I' (fun b hb => by rw [f1 b hb, om_u_ne hb]) f2)⟩
      rw [om_u_eq, om_tb_p hi.1 hi.2 (by omega) (by omega), om_tm0 hnn, hv, hI i' k']
      by_cases hc : i' = i ∧ k' = k
      · rw [if_pos hc, if_pos (by omega), hc.2]
      · rw [if_neg hc]
        by_cases hc2 : i' = i ∧ 0 ≤ k' ∧ k' < k
        · rw [if_pos hc2, if_pos (by omega)]
        · rw [if_neg hc2, if_neg (by omega)]
    simp only [x_Op_deriveRow_9, x_Op_deriveRow_10, x_Op_deriveRow_11, x_Op_deriveRow_14, x_Op_deriveRow_17, x_Op_deriveRow_18, x_Op_deriveRow_19, x_Op_deriveRow_20, x_Op_deriveRow_21, x_Op_deriveRow_24, g1]
    rw [if_neg (by omega)]
    refine ⟨⟨by omega, by omega⟩, ?_⟩
    by_cases hw : w ≤ k + 1
    · rw [if_pos hw]
      simp only [x_Op_deriveRow_40, x_Op_deriveRow_41]
      exact fin 0 (by rw [hAo i (k + 1) (by omega)])
    · rw [if_neg hw]
      obtain ⟨c1, c2, c3⟩ := om_ixb (o := o) (w := w) (i := i) (k := k + 1) hi.1 hi.2 (by omega) (by omega) p4 p6
      simp only [x_Op_deriveRow_27, x_Op_deriveRow_28, x_Op_deriveRow_31, x_Op_deriveRow_32, x_Op_deriveRow_33, x_Op_deriveRow_34, x_Op_deriveRow_35, x_Op_deriveRow_36, x_Op_deriveRow_37, x_Op_deriveRow_40, x_Op_deriveRow_41, g2, om_ab_eq p2]
      refine ⟨⟨by omega, by omega⟩, ⟨by omega, by omega⟩, ⟨by omega, by omega⟩, fin _ ?_⟩
      rw [show i * w + k + 1 = i * w + (k + 1) by omega, om_tb_get (w := w) (f := I c) (k := k + 1) hi.1 hi.2 (by omega) (by omega), hI i (k + 1), if_neg (by omega)]
theorem op_deriveRow {sc : Int × (Int → Int)} {d : Nat} {O : List (Nat × Nat × List om_V)} {I : Nat → Int → Int} {Q : Option om_V → om_H → Prop} {a c : Nat} {o w i : Int} (ho : om_op O a c o w) (hi : 0 ≤ i ∧ i < o) (hA : om_r31 (om_tb o w (I c))) (hq : ∀ I', (∀ b, b ≠ c → I' b = I b) → (∀ i' k', om_tb o w (I' c) i' k' = if i' = i ∧ 0 ≤ k' ∧ k' < w then ((k' + 1) * om_tb o w (I c) i (k' + 1)) % 31 else om_tb o w (I c) i' k') → Q none (O, I')) : om_R sc d 39 0 [.inr (.inl a), .inl i, om_un, om_un, om_un] [] (O, I) Q := by
  obtain ⟨g0, g1, g2, gr⟩ := om_op_g ho
  obtain ⟨p1, p2, p3, p4, p5, p6⟩ := id ho
  obtain ⟨b1, b2, b3⟩ := om_ixb (o := o) (w := w) (i := i) (k := 0) hi.1 hi.2 (by omega) (by omega) p4 p6
  simp only [x_Op_deriveRow_0, x_Op_deriveRow_1, x_Op_deriveRow_2, x_Op_deriveRow_5, x_Op_deriveRow_6, x_Op_deriveRow_7, x_Op_deriveRow_8, g1]
  exact ⟨⟨by omega, by omega⟩, op_deriveRow_l ho hi hA (fun i' k' h => om_tb_out h) w.toNat 0 _ I (by omega) (by omega) (fun i' k' => by rw [if_neg (by omega)]) hq⟩
/-- sums from a place on -/
def om_sx (r : Int → Int) : Nat → Int → Int
  | 0, _ => 0
  | n + 1, k => (r k + om_sx r n (k + 1)) % 31
theorem om_sx_b (r : Int → Int) (n : Nat) (k : Int) : 0 ≤ om_sx r n k ∧ om_sx r n k < 31 := by
  cases n with
  | zero => simp [om_sx]
  | succ n => unfold om_sx; omega
/-- one pass of the shift, and so many passes -/
def om_pa (w : Int) (r : Int → Int) (l : Int) (k : Int) : Int := if l ≤ k ∧ k < w then om_sx r (w - k).toNat k else r k
def om_ps (w : Int) (r : Int → Int) : Nat → Int → Int
  | 0 => r
  | n + 1 => om_pa w (om_ps w r n) n
theorem om_ps_b {w : Int} {r : Int → Int} (h : ∀ k, 0 ≤ r k ∧ r k < 31) : ∀ (n : Nat) (k : Int), 0 ≤ om_ps w r n k ∧ om_ps w r n k < 31
  | 0, k => h k
  | n + 1, k => by
    unfold om_ps om_pa
    split
    · exact om_sx_b _ _ _
    · exact om_ps_b h n k
theorem om_ps_o {w : Int} {r : Int → Int} (h : ∀ k, ¬ (0 ≤ k ∧ k < w) → r k = 0) : ∀ (n : Nat) (k : Int), ¬ (0 ≤ k ∧ k < w) → om_ps w r n k = 0
  | 0, k, hk => h k hk
  | n + 1, k, hk => by
    unfold om_ps om_pa
    rw [if_neg (by omega)]
    exact om_ps_o h n k hk
theorem op_shiftRow_k {sc : Int × (Int → Int)} {d : Nat} {O : List (Nat × Nat × List om_V)} {Q : Option om_V → om_H → Prop} {a c : Nat} {o w i ls : Int} (ho : om_op O a c o w) (hi : 0 ≤ i ∧ i < o) {A : Int → Int → Int} (hA : om_r31 A) (hl : 0 ≤ ls ∧ ls < w) (K : (Nat → Int → Int) → Prop) (hK : ∀ I', K I' → om_R sc d 40 70 [.inr (.inl a), .inl i, .inl (i * w), .inl ls, .inl (ls - 1)] [] (O, I') Q) : ∀ (m : Nat) (k : Int) (I : Nat → Int → Int), k + 1 = ls + m → k + 2 ≤ w → (∀ i' k', om_tb o w (I c) i' k' = if i' = i ∧ k < k' ∧ k' < w then om_sx (A i) (w - k').toNat k' else A i' k') → (∀ I', (∀ b, b ≠ c → I' b = I b) → (∀ i' k', om_tb o w (I' c) i' k' = if i' = i ∧ ls ≤ k' ∧ k' < w then om_sx (A i) (w - k').toNat k' else A i' k') → K I') → om_R sc d 40 25 [.inr (.inl a), .inl i, .inl (i * w), .inl ls, .inl k] [] (O, I) Q := by
  obtain ⟨g0, g1, g2, gr⟩ := om_op_g ho
  obtain ⟨p1, p2, p3, p4, p5, p6⟩ := ho
  intro m
  induction m with
  | zero =>
    intro k I h1 h2 hI hq
    simp only [x_Op_shiftRow_25, x_Op_shiftRow_27, x_Op_shiftRow_28]
    rw [if_pos (by omega)]
    have hk : k = ls - 1 := by omega
    subst hk
    refine hK I (hq I (fun _ _ => rfl) (fun i' k' => ?_))
    rw [hI i' k']
    by_cases hc : i' = i ∧ ls ≤ k' ∧ k' < w
    · rw [if_pos hc, if_pos (by omega)]
    · rw [if_neg hc, if_neg (by omega)]
  | succ m ih =>
    intro k I h1 h2 hI hq
    obtain ⟨b1, b2, b3⟩ := om_ixb (o := o) (w := w) (i := i) (k := k) hi.1 hi.2 (by omega) (by omega) p4 p6
    obtain ⟨c1, c2, c3⟩ := om_ixb (o := o) (w := w) (i := i) (k := k + 1) hi.1 hi.2 (by omega) (by omega) p4 p6
    have e1 : I c (i * w + k) = A i k := by rw [om_tb_get (w := w) (f := I c) (k := k) hi.1 hi.2 (by omega) (by omega), hI i k, if_neg (by omega)]
    have e2 : I c (i * w + k + 1) = om_sx (A i) (w - (k + 1)).toNat (k + 1) := by rw [show i * w + k + 1 = i * w + (k + 1) by omega, om_tb_get (w := w) (f := I c) (k := k + 1) hi.1 hi.2 (by omega) (by omega), hI i (k + 1), if_pos (by omega)]
    obtain ⟨a1, a2⟩ := hA i k
    obtain ⟨a3, a4⟩ := om_sx_b (A i) (w - (k + 1)).toNat (k + 1)
    simp only [x_Op_shiftRow_25, x_Op_shiftRow_27, x_Op_shiftRow_28]
    rw [if_neg (by omega)]
    simp only [x_Op_shiftRow_31, x_Op_shiftRow_32, x_Op_shiftRow_35, x_Op_shiftRow_36, x_Op_shiftRow_38, x_Op_shiftRow_39, x_Op_shiftRow_40, x_Op_shiftRow_43, x_Op_shiftRow_44, x_Op_shiftRow_46, x_Op_shiftRow_47, x_Op_shiftRow_48, x_Op_shiftRow_49, x_Op_shiftRow_52, x_Op_shiftRow_53, x_Op_shiftRow_55, x_Op_shiftRow_56, x_Op_shiftRow_57, x_Op_shiftRow_58, x_Op_shiftRow_59, x_Op_shiftRow_60, x_Op_shiftRow_62, x_Op_shiftRow_63, x_Op_shiftRow_64, x_Op_shiftRow_67, g2, om_ab_eq p2, e1, e2]
    refine ⟨⟨by omega, by omega⟩, ⟨by omega, by omega⟩, ⟨by omega, by omega⟩, ⟨by omega, by omega⟩, ⟨by omega, by omega⟩, ⟨by omega, by omega⟩, ⟨by omega, by omega⟩, by decide, ⟨by omega, by omega⟩, ⟨by omega, by omega⟩, ih _ _ (by omega) (by omega) (fun i' k' => ?_) (fun I' f1 f2 => hq I' (fun b hb => by rw [f1 b hb, om_u_ne hb]) f2)⟩
    rw [om_u_eq, om_tb_p hi.1 hi.2 (by omega) (by omega), om_tm0 (by omega), hI i' k']
    by_cases hc : i' = i ∧ k' = k
    · rw [if_pos hc, if_pos (by omega), hc.2]
      rw [show (w - k).toNat = (w - (k + 1)).toNat + 1 by omega]
      rfl
    · rw [if_neg hc]
      by_cases hc2 : i' = i ∧ k < k' ∧ k' < w
      · rw [if_pos hc2, if_pos (by omega)]
      · rw [if_neg hc2, if_neg (by omega)]
theorem op_shiftRow_l {sc : Int × (Int → Int)} {d : Nat} {O : List (Nat × Nat × List om_V)} {Q : Option om_V → om_H → Prop} {a c : Nat} {o w i : Int} (ho : om_op O a c o w) (hi : 0 ≤ i ∧ i < o) {A : Int → Int → Int} (hA : om_r31 A) (hAo : ∀ i' k', ¬ (0 ≤ i' ∧ i' < o ∧ 0 ≤ k' ∧ k' < w) → A i' k' = 0) : ∀ (m : Nat) (n : Nat) (x : om_V) (I : Nat → Int → Int), (n : Int) + m = w → (∀ i' k', om_tb o w (I c) i' k' = if i' = i then om_ps w (A i) n k' else A i' k') → (∀ I', (∀ b, b ≠ c → I' b = I b) → (∀ i' k', om_tb o w (I' c) i' k' = if i' = i then om_ps w (A i) w.toNat k' else A i' k') → Q none (O, I')) → om_R sc d 40 9 [.inr (.inl a), .inl i, .inl (i * w), .inl (n : Int), x] [] (O, I) Q := by
  obtain ⟨g0, g1, g2, gr⟩ := om_op_g ho
  obtain ⟨p1, p2, p3, p4, p5, p6⟩ := id ho
  intro m
  induction m with
  | zero =>
    intro n x I h1 hI hq
    simp only [x_Op_shiftRow_9, x_Op_shiftRow_10, x_Op_shiftRow_11, x_Op_shiftRow_14, x_Op_shiftRow_76, g1]
    rw [if_pos (by omega)]
    refine hq I (fun _ _ => rfl) ?_
    rw [show w.toNat = n by omega]
    exact hI
  | succ m ih =>
    intro n x I h1 hI hq
    simp only [x_Op_shiftRow_9, x_Op_shiftRow_10, x_Op_shiftRow_11, x_Op_shiftRow_14, g1]
    rw [if_neg (by omega)]
    simp only [x_Op_shiftRow_17, x_Op_shiftRow_18, x_Op_shiftRow_21, x_Op_shiftRow_22, x_Op_shiftRow_23, g1]
    refine ⟨⟨by omega, by omega⟩, ?_⟩
    refine op_shiftRow_k ho hi (A := fun i' k' => if i' = i then om_ps w (A i) n k' else A i' k') ?_ (ls := n) (by omega) (fun I1 => (∀ b, b ≠ c → I1 b = I b) ∧ ∀ i' k', om_tb o w (I1 c) i' k' = if i' = i then om_ps w (A i) (n + 1) k' else A i' k') (fun I1 ⟨f1, f2⟩ => ?_) (m - 0) (w - 2) I (by omega) (by omega) (fun i' k' => ?_) (fun I1 f1 f2 => ⟨f1, fun i' k' => ?_⟩)
    · intro i' k'
      dsimp only
      split
      · exact om_ps_b (hA i) n k'
      · exact hA i' k'
    · simp only [x_Op_shiftRow_70, x_Op_shiftRow_73]
      refine ⟨⟨by omega, by omega⟩, ?_⟩
      have h := ih (n + 1) (.inl ((n : Int) - 1)) I1 (by omega) f2 (fun I' f3 f4 => hq I' (fun b hb => by rw [f3 b hb, f1 b hb]) f4)
      simpa using h
    · rw [hI i' k']
      by_cases hc : i' = i ∧ w - 2 < k' ∧ k' < w
      · rw [if_pos hc, if_pos hc.1]
        have hk : k' = w - 1 := by omega
        subst hk
        rw [show (w - (w - 1)).toNat = 1 by omega]
        simp only [om_sx, if_true]
        have := om_ps_b (w := w) (hA i) n (w - 1)
        omega
      · rw [if_neg hc]
    · rw [f2 i' k']
      by_cases hc : i' = i ∧ (n : Int) ≤ k' ∧ k' < w
      · rw [if_pos hc, if_pos hc.1]
        simp only [if_true]
        rw [show om_ps w (A i) (n + 1) = om_pa w (om_ps w (A i) n) n from rfl]
        unfold om_pa
        rw [if_pos hc.2]
      · rw [if_neg hc]
        by_cases hi2 : i' = i
        · rw [if_pos hi2, if_pos hi2]
          rw [show om_ps w (A i) (n + 1) = om_pa w (om_ps w (A i) n) n from rfl]
          unfold om_pa
          rw [if_neg (by omega)]
        · rw [if_neg hi2, if_neg hi2]
theorem op_shiftRow {sc : Int × (Int → Int)} {d : Nat} {O : List (Nat × Nat × List om_V)} {I : Nat → Int → Int} {Q : Option om_V → om_H → Prop} {a c : Nat} {o w i : Int} (ho : om_op O a c o w) (hi : 0 ≤ i ∧ i < o) (hA : om_r31 (om_tb o w (I c))) (hq : ∀ I', (∀ b, b ≠ c → I' b = I b) → (∀ i' k', om_tb o w (I' c) i' k' = if i' = i then om_ps w (om_tb o w (I c) i) w.toNat k' else om_tb o w (I c) i' k') → Q none (O, I')) : om_R sc d 40 0 [.inr (.inl a), .inl i, om_un, om_un, om_un] [] (O, I) Q := by
  obtain ⟨g0, g1, g2, gr⟩ := om_op_g ho
  obtain ⟨p1, p2, p3, p4, p5, p6⟩ := id ho
  obtain ⟨b1, b2, b3⟩ := om_ixb (o := o) (w := w) (i := i) (k := 0) hi.1 hi.2 (by omega) (by omega) p4 p6
  simp only [x_Op_shiftRow_0, x_Op_shiftRow_1, x_Op_shiftRow_2, x_Op_shiftRow_5, x_Op_shiftRow_6, x_Op_shiftRow_7, x_Op_shiftRow_8, g1]
  refine ⟨⟨by omega, by omega⟩, ?_⟩
  have h := op_shiftRow_l (sc := sc) (d := d) ho hi hA (fun i' k' h => om_tb_out h) w.toNat 0 om_un I (by omega) (fun i' k' => by
    by_cases hc : i' = i
    · rw [if_pos hc, hc]; rfl
    · rw [if_neg hc]) hq
  simpa using h
