/-! division: what both sides reckon -/
theorem om_p31 {u x : Int} (hu : 0 < u ∧ u < 31) (hx : 0 ≤ x ∧ x < 31) (h : (u * x) % 31 = 0) : x = 0 := by
  have key : ∀ a b : Fin 31, (a.val * b.val) % 31 = 0 → a.val = 0 ∨ b.val = 0 := by decide +kernel
  have e := key ⟨u.toNat, by omega⟩ ⟨x.toNat, by omega⟩
  have e2 : ((u.toNat * x.toNat : Nat) : Int) = u * x := by
    rw [Int.natCast_mul, Int.toNat_of_nonneg (by omega), Int.toNat_of_nonneg (by omega)]
  have e3 : (u.toNat * x.toNat) % 31 = 0 := by omega
  have := e e3
  simp only at this
  omega
def om_ds (s : Int) (B : Int → Int → Int) (n u : Int) (m : Nat) (R : Int → Int → Int) (j k : Int) : Int := (R j k - om_cv (fun a => (u * R (n + m) a) % 31) (om_Ti s B m) j k) % 31
def om_dr (s : Int) (B : Int → Int → Int) (n u : Int) : Nat → (Int → Int → Int) → Int → Int → Int
  | 0, R => R
  | m + 1, R => om_dr s B n u m (om_ds s B n u m R)
def om_dq (s : Int) (B : Int → Int → Int) (n u : Int) : Nat → (Int → Int → Int) → Int → Int → Int
  | 0, _ => fun _ _ => 0
  | m + 1, R => fun i k => if i = m then (u * R (n + m) k) % 31 else om_dq s B n u m (om_ds s B n u m R) i k
theorem om_dq_r {s n u : Int} {B : Int → Int → Int} : ∀ (m : Nat) (R : Int → Int → Int), om_r31 (om_dq s B n u m R)
  | 0, R => fun i k => by simp [om_dq]
  | m + 1, R => fun i k => by
    unfold om_dq
    split
    · omega
    · exact om_dq_r m _ i k
theorem om_dq_o {s n u : Int} {B : Int → Int → Int} : ∀ (m : Nat) (R : Int → Int → Int) (i k : Int), ¬ (0 ≤ i ∧ i < m) → om_dq s B n u m R i k = 0
  | 0, R, i, k, h => rfl
  | m + 1, R, i, k, h => by
    unfold om_dq
    rw [if_neg (by omega)]
    exact om_dq_o m _ i k (by omega)
theorem om_dq_ft {s n u : Int} {B R : Int → Int → Int} {m : Nat} (hm : m ≤ 4) : om_ft (om_dq s B n u (m + 1) R) ↔ (∀ k, 12 < k → (u * R (n + m) k) % 31 = 0) ∧ om_ft (om_dq s B n u m (om_ds s B n u m R)) := by
  constructor
  · intro h
    refine ⟨fun k hk => Decidable.byContradiction (fun hn => ?_), fun i k hk => ?_⟩
    · have := h m k (by unfold om_dq; rw [if_pos rfl]; exact hn)
      omega
    · refine h i k ?_
      unfold om_dq
      have hi : i ≠ m := fun e => hk (om_dq_o m _ i k (by omega))
      rw [if_neg hi]
      exact hk
  · rintro ⟨h1, h2⟩ i k hk
    unfold om_dq at hk
    split at hk
    · rename_i e
      refine ⟨by omega, Decidable.byContradiction (fun hn => hk (h1 k (by omega)))⟩
    · exact h2 i k hk
theorem om_ds_r {s n u : Int} {B R : Int → Int → Int} {m : Nat} : om_r31 (om_ds s B n u m R) := fun j k => by unfold om_ds; omega
theorem om_ds_su {s n u o w wc wB : Int} {B R : Int → Int → Int} {m : Nat} (hR : om_su o w R) (hc : ∀ a, ¬ (0 ≤ a ∧ a < wc) → (u * R (n + m) a) % 31 = 0) (hB : om_su (o - m) wB B) (h64 : wB ≤ 64) (hw : wc + wB - 1 ≤ w) : om_su o w (om_ds s B n u m R) := by
  intro j k hn
  unfold om_ds
  rw [hR j k hn, om_cv_o hc (om_Ti_su hB h64 m) j k (by omega)]
  rfl
theorem om_neg_sm {c : Int → Int} {W : Int → Int} : ∀ n : Nat, (om_sm (fun q => ((30 * c q) % 31) * W q) n + om_sm (fun q => c q * W q) n) % 31 = 0
  | 0 => rfl
  | n + 1 => by
    have h := om_neg_sm (c := c) (W := W) n
    show (om_sm (fun q => ((30 * c q) % 31) * W q) n + ((30 * c n) % 31) * W n + (om_sm (fun q => c q * W q) n + c n * W n)) % 31 = 0
    have e : (30 * c n) % 31 = 30 * c n - 31 * (30 * c n / 31) := by omega
    rw [e, Int.sub_mul, Int.mul_assoc, Int.mul_assoc]
    generalize (30 * c n / 31) * W n = y
    generalize c n * W n = x
    omega
/-- the reference's inverse -/
theorem om_inv_eq : ∀ v : Int, 0 < v → v < 31 → (0 < om_pw v 29 ∧ om_pw v 29 < 31) ∧ (v * om_pw v 29) % 31 = 1 := by
  have key : ∀ a : Fin 31, a.val ≠ 0 → (0 < om_pw (a.val : Int) 29 ∧ om_pw (a.val : Int) 29 < 31) ∧ ((a.val : Int) * om_pw (a.val : Int) 29) % 31 = 1 := by decide +kernel
  intro v h1 h2
  have h := key ⟨v.toNat, by omega⟩ (by simp only; omega)
  simp only [Int.toNat_of_nonneg (Int.le_of_lt h1)] at h
  exact h
theorem md_inverse_l {sc : Int × (Int → Int)} {d : Nat} {h : om_H} {Q : Option om_V → om_H → Prop} {v : Int} (hv : 0 < v ∧ v < 31) (hq : Q (some (.inl (om_pw v 29))) h) : ∀ (m : Nat) (x : Int), x + m = om_pw v 29 → 0 < x → om_R sc d 137 2 [.inl v, .inl x] [] h Q := by
  obtain ⟨⟨u1, u2⟩, u3⟩ := om_inv_eq v hv.1 hv.2
  have uniq : ∀ x : Int, 0 < x → x < 31 → (x * v) % 31 = 1 → x = om_pw v 29 := by
    intro x x1 x2 hx
    have h1 : (v * (x - om_pw v 29)) % 31 = 0 := by
      rw [Int.mul_sub]
      rw [Int.mul_comm] at hx
      omega
    rcases Int.lt_trichotomy x (om_pw v 29) with q | q | q
    · have h2 : (v * (om_pw v 29 - x)) % 31 = 0 := by
        rw [Int.mul_sub] at h1 ⊢
        omega
      have := om_p31 hv (x := om_pw v 29 - x) (by omega) h2
      omega
    · exact q
    · have := om_p31 hv (x := x - om_pw v 29) (by omega) h1
      omega
  intro m
  induction m with
  | zero =>
    intro x h1 h2
    have hx : x = om_pw v 29 := by omega
    have b : 0 ≤ x * v := Int.mul_nonneg (by omega) (by omega)
    obtain ⟨c1, c2⟩ := om_mb (t := x) (x := v) (T := 30) (by omega) (by omega) (by omega) (by omega)
    simp only [x_Md_inverse_2, x_Md_inverse_3, x_Md_inverse_5, x_Md_inverse_24, x_Md_inverse_25]
    by_cases h30 : 30 ≤ x
    · rw [if_pos h30, hx]
      exact hq
    · rw [if_neg h30]
      simp only [x_Md_inverse_8, x_Md_inverse_9, x_Md_inverse_10, x_Md_inverse_11, x_Md_inverse_13, x_Md_inverse_14, x_Md_inverse_15, om_tm0 b, x_Md_inverse_24, x_Md_inverse_25]
      have e : (x * v) % 31 = 1 := by rw [Int.mul_comm, hx]; exact u3
      rw [e]
      refine ⟨⟨by omega, by omega⟩, by decide, ?_⟩
      simp only [if_true]
      rw [hx]
      exact hq
  | succ m ih =>
    intro x h1 h2
    have b : 0 ≤ x * v := Int.mul_nonneg (by omega) (by omega)
    obtain ⟨c1, c2⟩ := om_mb (t := x) (x := v) (T := 30) (by omega) (by omega) (by omega) (by omega)
    simp only [x_Md_inverse_2, x_Md_inverse_3, x_Md_inverse_5]
    rw [if_neg (by omega)]
    simp only [x_Md_inverse_8, x_Md_inverse_9, x_Md_inverse_10, x_Md_inverse_11, x_Md_inverse_13, x_Md_inverse_14, x_Md_inverse_15, om_tm0 b]
    refine ⟨⟨by omega, by omega⟩, by decide, ?_⟩
    rw [if_neg (fun e => by
      have := uniq x h2 (by omega) e
      omega)]
    simp only [x_Md_inverse_18, x_Md_inverse_21]
    exact ⟨⟨by omega, by omega⟩, ih _ (by omega) (by omega)⟩
theorem md_inverse {sc : Int × (Int → Int)} {d : Nat} {h : om_H} {Q : Option om_V → om_H → Prop} {v : Int} (hv : 0 < v ∧ v < 31) (hq : Q (some (.inl (om_pw v 29))) h) : om_R sc d 137 0 [.inl v, om_un] [] h Q := by
  obtain ⟨⟨u1, u2⟩, u3⟩ := om_inv_eq v hv.1 hv.2
  simp only [x_Md_inverse_0, x_Md_inverse_1]
  exact md_inverse_l hv hq (om_pw v 29 - 1).toNat 1 (by omega) (by omega)
