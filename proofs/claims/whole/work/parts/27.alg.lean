/-! the algebra: T before a table, products, images -/
def om_su (o w : Int) (A : Int → Int → Int) : Prop := ∀ i k, ¬ (0 ≤ i ∧ i < o ∧ 0 ≤ k ∧ k < w) → A i k = 0
theorem om_su_le {o w o' w' : Int} {A : Int → Int → Int} (h : om_su o w A) (h1 : o ≤ o') (h2 : w ≤ w') : om_su o' w' A := fun i k hn => h i k (by omega)
theorem om_tb_su {o w : Int} {f : Int → Int} : om_su o w (om_tb o w f) := fun _ _ h => om_tb_out h
theorem om_sx_z {r : Int → Int} : ∀ {n : Nat} {k : Int}, (∀ j, k ≤ j → j < k + n → r j = 0) → om_sx r n k = 0
  | 0, k, h => rfl
  | n + 1, k, h => by
    have h1 := om_sx_z (r := r) (n := n) (k := k + 1) (fun j q1 q2 => h j (by omega) (by omega))
    have h2 := h k (by omega) (by omega)
    unfold om_sx
    rw [h1, h2]
    rfl
theorem om_sx_m {r : Int → Int} {m : Nat} : ∀ {n : Nat} {k : Int}, (∀ j, k + n ≤ j → j < k + n + m → r j = 0) → om_sx r (n + m) k = om_sx r n k
  | 0, k, h => by
    rw [Nat.zero_add]
    exact om_sx_z (fun j q1 q2 => h j (by omega) (by omega))
  | n + 1, k, h => by
    have h1 := om_sx_m (r := r) (m := m) (n := n) (k := k + 1) (fun j q1 q2 => h j (by omega) (by omega))
    rw [show n + 1 + m = (n + m) + 1 by omega]
    unfold om_sx
    rw [h1]
theorem om_pa_w {w w' l : Int} {r : Int → Int} (h : ∀ k, ¬ (0 ≤ k ∧ k < w) → r k = 0) (hw : w ≤ w') (hl : 0 ≤ l) : om_pa w' r l = om_pa w r l := by
  funext k
  unfold om_pa
  by_cases h1 : l ≤ k ∧ k < w
  · rw [if_pos h1, if_pos (by omega)]
    rw [show (w' - k).toNat = (w - k).toNat + (w' - w).toNat by omega]
    exact om_sx_m (fun j q1 q2 => h j (by omega))
  · rw [if_neg h1]
    by_cases h2 : l ≤ k ∧ k < w'
    · rw [if_pos h2, h k (by omega)]
      exact om_sx_z (fun j q1 q2 => h j (by omega))
    · rw [if_neg h2]
theorem om_ps_w {w w' : Int} {r : Int → Int} (h : ∀ k, ¬ (0 ≤ k ∧ k < w) → r k = 0) (hw : w ≤ w') : ∀ n : Nat, om_ps w' r n = om_ps w r n
  | 0 => rfl
  | n + 1 => by
    show om_pa w' (om_ps w' r n) n = om_pa w (om_ps w r n) n
    rw [om_ps_w h hw n]
    exact om_pa_w (om_ps_o h n) hw (by omega)
theorem om_ps_n {w : Int} {r : Int → Int} (m : Nat) : om_ps w r (w.toNat + m) = om_ps w r w.toNat := by
  induction m with
  | zero => rfl
  | succ m ih =>
    show om_pa w (om_ps w r (w.toNat + m)) ((w.toNat + m : Nat) : Int) = _
    rw [ih]
    funext k
    unfold om_pa
    rw [if_neg (by omega)]
/-- x + 1 in place of x -/
def om_sh (r : Int → Int) : Int → Int := om_ps 64 r 64
theorem om_sh_w {w : Int} {r : Int → Int} (h : ∀ k, ¬ (0 ≤ k ∧ k < w) → r k = 0) (hw : w ≤ 64) : om_ps w r w.toNat = om_sh r := by
  unfold om_sh
  rw [om_ps_w h hw 64]
  rw [show 64 = w.toNat + (64 - w.toNat) by omega, om_ps_n]
theorem om_sh_n {w : Int} {r : Int → Int} (h : ∀ k, ¬ (0 ≤ k ∧ k < w) → r k = 0) (hw : w ≤ 64) {n : Nat} (hn : w ≤ n) : om_ps w r n = om_sh r := by
  rw [← om_sh_w h hw, show n = w.toNat + (n - w.toNat) by omega, om_ps_n]
theorem om_sh_o {w : Int} {r : Int → Int} (h : ∀ k, ¬ (0 ≤ k ∧ k < w) → r k = 0) (hw : w ≤ 64) (k : Int) (hk : ¬ (0 ≤ k ∧ k < w)) : om_sh r k = 0 := by
  rw [← om_sh_w h hw]
  exact om_ps_o h _ k hk
theorem om_sh_b {r : Int → Int} (h : ∀ k, 0 ≤ r k ∧ r k < 31) (k : Int) : 0 ≤ om_sh r k ∧ om_sh r k < 31 := om_ps_b h 64 k
/-- T before an operator; s = 0: DERIVATIVE -/
def om_T (s : Int) (A : Int → Int → Int) (i k : Int) : Int := if s = 0 then ((((k + 1) * A i (k + 1)) % 31) + A (i - 1) k) % 31 else om_sh (A (i - 1)) k
theorem om_T_w {s o w : Int} {A : Int → Int → Int} (h : om_su o w A) (hw : w ≤ 64) (i k : Int) : om_tT s w A i k = om_T s A i k := by
  unfold om_tT om_T
  split
  · rfl
  · rw [om_sh_w (fun k hk => h (i - 1) k (by omega)) hw]
theorem om_T_su {s o w : Int} {A : Int → Int → Int} (h : om_su o w A) (hw : w ≤ 64) : om_su (o + 1) w (om_T s A) := by
  intro i k hn
  unfold om_T
  split
  · rw [h (i - 1) k (by omega)]
    by_cases hk : k = -1
    · subst hk
      simp
    · rw [h i (k + 1) (by omega), Int.mul_zero]
      rfl
  · by_cases hi : 0 ≤ i - 1 ∧ i - 1 < o
    · exact om_sh_o (fun k hk => h (i - 1) k (by omega)) hw k (by omega)
    · by_cases hw0 : 0 ≤ w
      · by_cases hk : 0 ≤ k ∧ k < w
        · have := om_sh_o (w := 0) (r := A (i - 1)) (fun k hk => h (i - 1) k (by omega)) (by omega) k (by omega)
          exact this
        · exact om_sh_o (w := w) (fun k hk => h (i - 1) k (by omega)) hw k hk
      · exact om_sh_o (w := w) (fun k hk => h (i - 1) k (by omega)) hw k (by omega)
theorem om_T_r {s : Int} {A : Int → Int → Int} (h : om_r31 A) : om_r31 (om_T s A) := by
  intro i k
  unfold om_T
  split
  · omega
  · exact om_sh_b (h (i - 1)) k
def om_Ti (s : Int) (A : Int → Int → Int) : Nat → Int → Int → Int
  | 0 => A
  | n + 1 => om_T s (om_Ti s A n)
theorem om_Ti_su {s o w : Int} {A : Int → Int → Int} (h : om_su o w A) (hw : w ≤ 64) : ∀ n : Nat, om_su (o + n) w (om_Ti s A n)
  | 0 => om_su_le h (by omega) (by omega)
  | n + 1 => om_su_le (om_T_su (om_Ti_su h hw n) hw) (by omega) (by omega)
theorem om_Ti_r {s : Int} {A : Int → Int → Int} (h : om_r31 A) : ∀ n : Nat, om_r31 (om_Ti s A n)
  | 0 => h
  | n + 1 => om_T_r (om_Ti_r h n)
/-- a row's polynomial times a table -/
def om_cv (p : Int → Int) (W : Int → Int → Int) (j k : Int) : Int := om_sm (fun q => p q * W j (k - q)) 64
theorem om_sm_n {f : Int → Int} {n : Nat} (m : Nat) (h : ∀ k : Int, (n : Int) ≤ k → k < n + m → f k = 0) : om_sm f (n + m) = om_sm f n := by
  induction m with
  | zero => rfl
  | succ m ih =>
    show om_sm f (n + m) + f ((n + m : Nat) : Int) = _
    rw [ih (fun k q1 q2 => h k q1 (by omega)), h ((n + m : Nat) : Int) (by omega) (by omega)]
    omega
theorem om_cv_n {p : Int → Int} {W : Int → Int → Int} {w : Int} (h : ∀ q, w ≤ q → p q = 0) (hw : w ≤ 64) (j k : Int) : om_sm (fun q => p q * W j (k - q)) w.toNat = om_cv p W j k := by
  unfold om_cv
  rw [show 64 = w.toNat + (64 - w.toNat) by omega]
  exact (om_sm_n _ (fun q q1 q2 => by
    show p q * W j (k - q) = 0
    rw [h q (by omega), Int.zero_mul])).symm
theorem om_cv_o {p : Int → Int} {W : Int → Int → Int} {w o w' : Int} (h : ∀ q, ¬ (0 ≤ q ∧ q < w) → p q = 0) (hW : om_su o w' W) (j k : Int) (hn : ¬ (0 ≤ j ∧ j < o ∧ 0 ≤ k ∧ k < w + w' - 1)) : om_cv p W j k = 0 := by
  unfold om_cv
  refine om_sm_0 (fun q q1 q2 => ?_)
  by_cases hq : q < w
  · rw [hW j (k - q) (by omega), Int.mul_zero]
  · rw [h q (by omega), Int.zero_mul]
/-- the product of operators -/
def om_mlt (s : Int) (A B : Int → Int → Int) (j k : Int) : Int := om_sm (fun i => om_cv (A i) (om_Ti s B i.toNat) j k) 5 % 31
def om_mup (s : Int) (A B : Int → Int → Int) (n : Nat) (j k : Int) : Int := om_sm (fun i => om_cv (A i) (om_Ti s B i.toNat) j k) n % 31
theorem om_mup_o {s : Int} {A B : Int → Int → Int} (hA : om_su 5 13 A) (hB : om_su 5 13 B) (n : Nat) (hn : n ≤ 5) : om_su 9 25 (om_mup s A B n) := by
  intro j k h
  unfold om_mup
  rw [om_sm_0]
  · rfl
  · intro i i1 i2
    refine om_cv_o (w := 13) (o := 5 + i.toNat) (w' := 13) (fun q hq => hA i q (by omega)) (om_Ti_su hB (by omega) i.toNat) j k (by omega)
theorem om_mup_5 {s : Int} {A B : Int → Int → Int} {n : Nat} (hn : n ≤ 5) (h : ∀ i k, (n : Int) ≤ i → A i k = 0) : om_mup s A B n = om_mlt s A B := by
  funext j k
  unfold om_mup om_mlt
  rw [show 5 = n + (5 - n) by omega, om_sm_n]
  intro i q1 q2
  exact om_sm_0 (fun q _ _ => by
    show A i q * om_Ti s B i.toNat j (k - q) = 0
    rw [h i q (by omega), Int.zero_mul])
theorem om_mlt_o {s : Int} {A B : Int → Int → Int} (hA : om_su 5 13 A) (hB : om_su 5 13 B) : om_su 9 25 (om_mlt s A B) := om_mup_o hA hB 5 (by omega)
theorem om_mup_r {s : Int} {A B : Int → Int → Int} (n : Nat) : om_r31 (om_mup s A B n) := fun j k => by unfold om_mup; omega
theorem om_mlt_r {s : Int} {A B : Int → Int → Int} : om_r31 (om_mlt s A B) := om_mup_r 5
