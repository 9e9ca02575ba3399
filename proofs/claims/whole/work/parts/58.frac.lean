/-! fractions with a denominator: what both sides reckon -/
def on_qm (p : Int → Int) (W : Int → Int → Int) (j k : Int) : Int := om_cv p W j k % 31
theorem on_qm_r {p : Int → Int} {W : Int → Int → Int} : om_r31 (on_qm p W) := fun j k => by unfold on_qm; omega
theorem on_qm_su {p : Int → Int} {W : Int → Int → Int} {o w : Int} (hp : ∀ q, ¬ (0 ≤ q ∧ q < 13) → p q = 0) (hW : om_su o w W) : om_su o (w + 12) (on_qm p W) := fun j k h => by
  unfold on_qm
  rw [om_cv_o hp hW j k (by omega)]
  rfl
def on_e0 (i k : Int) : Int := if i = 0 ∧ k = 0 then 1 else 0
def on_N (B : Int → Int → Int) : Nat → Int → Int → Int
  | 0 => on_e0
  | n + 1 => fun j k => (om_cv (B 0) (om_T 0 (on_N B n)) j k - ((n : Int) + 1) * om_cv (om_D 0 B 0) (on_N B n) j k) % 31
theorem on_e0_su : om_su 1 1 on_e0 := fun i k h => if_neg (by omega)
theorem on_e0_r : om_r31 on_e0 := fun i k => by unfold on_e0; split <;> omega
theorem on_N_r {B : Int → Int → Int} : ∀ n : Nat, om_r31 (on_N B n)
  | 0 => on_e0_r
  | n + 1 => fun j k => by unfold on_N; omega
theorem on_N_su {B : Int → Int → Int} (hB : om_su 1 13 B) : ∀ n : Nat, n ≤ 4 → om_su (n + 1) (12 * n + 1) (on_N B n)
  | 0, _ => om_su_le on_e0_su (by omega) (by omega)
  | n + 1, hn => fun j k h => by
    have h1 := on_N_su hB n (by omega)
    have h2 := om_T_su (s := 0) h1 (by omega)
    unfold on_N
    rw [om_cv_o (w := 13) (fun q hq => hB 0 q (by omega)) h2 j k (by omega), om_cv_o (w := 13) (fun q hq => om_D_su (s := 0) hB (by omega) 0 q (by omega)) h1 j k (by omega), Int.mul_zero]
    rfl
def on_P (p : Int → Int) : Nat → (Int → Int → Int) → Int → Int → Int
  | 0, W => W
  | m + 1, W => on_P p m (on_qm p W)
theorem on_P_r {p : Int → Int} : ∀ (m : Nat) (W : Int → Int → Int), om_r31 W → om_r31 (on_P p m W)
  | 0, W, h => h
  | m + 1, W, h => on_P_r m _ on_qm_r
theorem on_P_su {p : Int → Int} {o : Int} (hp : ∀ q, ¬ (0 ≤ q ∧ q < 13) → p q = 0) : ∀ (m : Nat) (W : Int → Int → Int) (w : Int), om_su o w W → om_su o (w + 12 * m) (on_P p m W)
  | 0, W, w, h => om_su_le h (Int.le_refl _) (by omega)
  | m + 1, W, w, h => om_su_le (on_P_su hp m _ (w + 12) (on_qm_su hp h)) (Int.le_refl _) (by omega)
def on_rw (i : Int) (f : Int → Int) (j k : Int) : Int := if j = i then f k else 0
theorem on_rw_cv {p f : Int → Int} {i : Int} : on_qm p (on_rw i f) = on_rw i (on_qm p (fun _ => f) 0) := by
  funext j k
  unfold on_rw on_qm
  by_cases h : j = i
  · rw [if_pos h]
    unfold om_cv
    have : (fun q => p q * if j = i then f (k - q) else 0) = fun q => p q * f (k - q) := by
      funext q
      rw [if_pos h]
    rw [this]
  · rw [if_neg h]
    have : om_cv p (fun j k => if j = i then f k else 0) j k = 0 := om_sm_0 (fun q _ _ => by
      show p q * (if j = i then f (k - q) else 0) = 0
      rw [if_neg h, Int.mul_zero])
    rw [this]
    rfl
def on_S (B : Int → Int → Int) (i : Int) : Nat → Int → Int
  | 0 => on_e0 0
  | j + 1 => if (j : Int) = i then on_S B i j else on_qm (om_Di 1 B j 0) (fun _ => on_S B i j) 0
theorem on_S_r {B : Int → Int → Int} {i : Int} : ∀ (j : Nat) (k : Int), 0 ≤ on_S B i j k ∧ on_S B i j k < 31
  | 0, k => on_e0_r 0 k
  | j + 1, k => by
    unfold on_S
    split
    · exact on_S_r j k
    · exact on_qm_r 0 k
/-- how many factors stand in it -/
def on_fc (i : Int) (j : Nat) : Int := if (j : Int) ≤ i then j else j - 1
theorem on_S_su {B : Int → Int → Int} {i : Int} (hB : om_su 1 13 B) (hi : 0 ≤ i) : ∀ (j : Nat) (k : Int), ¬ (0 ≤ k ∧ k < 12 * on_fc i j + 1) → on_S B i j k = 0
  | 0, k, h => on_e0_su 0 k (by unfold on_fc at h; split at h <;> omega)
  | j + 1, k, h => by
    unfold on_S
    split
    · rename_i hj
      refine on_S_su hB hi j k (fun hh => h ?_)
      unfold on_fc at hh ⊢
      rw [if_pos (by omega)] at hh
      rw [if_neg (by omega)]
      omega
    · rename_i hj
      have h1 : om_su 1 (12 * on_fc i j + 1) (fun j' k' => if j' = 0 then on_S B i j k' else 0) := by
        intro j' k' hn
        by_cases h0 : j' = 0
        · simp only [if_pos h0]
          exact on_S_su hB hi j k' (by omega)
        · simp only [if_neg h0]
      have h2 := on_qm_su (fun q hq => om_Di_su (s := 1) hB (by omega) j 0 q (by omega)) h1 0 k (by
        unfold on_fc at h ⊢
        split
        · rw [if_pos (by omega)] at h
          omega
        · rw [if_neg (by omega)] at h
          omega)
      exact h2
/-- the part of order i -/
def on_tm (s : Int) (B : Int → Int → Int) (n i : Nat) : Int → Int → Int := if s = 0 then on_P (B 0) (n - i) (on_N B i) else on_rw i (on_S B i (n + 1))
theorem on_tm_r {s : Int} {B : Int → Int → Int} {n i : Nat} : om_r31 (on_tm s B n i) := by
  unfold on_tm
  split
  · exact on_P_r _ _ (on_N_r i)
  · intro j k
    unfold on_rw
    split
    · exact on_S_r _ k
    · omega
theorem on_tm_su {s : Int} {B : Int → Int → Int} {n i : Nat} (hB : om_su 1 13 B) (hi : i ≤ n) (hn : n ≤ 4) : om_su 5 (12 * n + 1) (on_tm s B n i) := by
  unfold on_tm
  split
  · exact om_su_le (on_P_su (fun q hq => hB 0 q (by omega)) (n - i) _ _ (on_N_su hB i (by omega))) (by omega) (by omega)
  · intro j k h
    unfold on_rw
    split
    · refine on_S_su hB (by omega) (n + 1) k ?_
      unfold on_fc
      rw [if_neg (by omega)]
      omega
    · rfl
def on_ov (s : Int) (A B : Int → Int → Int) (n : Nat) : Nat → Int → Int → Int
  | 0 => fun _ _ => 0
  | m + 1 => fun j k => (on_ov s A B n m j k + om_cv (A m) (on_tm s B n m) j k) % 31
theorem on_ov_r {s : Int} {A B : Int → Int → Int} {n : Nat} : ∀ m, om_r31 (on_ov s A B n m)
  | 0 => fun _ _ => by simp [on_ov]
  | m + 1 => fun j k => by unfold on_ov; omega
theorem on_ov_su {s : Int} {A B : Int → Int → Int} {n : Nat} (hA : om_su 5 13 A) (hB : om_su 1 13 B) (hn : n ≤ 4) : ∀ m, m ≤ n + 1 → om_su 5 61 (on_ov s A B n m)
  | 0, _ => fun _ _ _ => rfl
  | m + 1, hm => fun j k h => by
    unfold on_ov
    rw [on_ov_su hA hB hn m (by omega) j k h, om_cv_o (w := 13) (fun q hq => hA m q (by omega)) (on_tm_su (s := s) hB (show m ≤ n by omega) hn) j k (by omega)]
    rfl
