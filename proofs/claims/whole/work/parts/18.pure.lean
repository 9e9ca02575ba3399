/-! small facts of numbers and tables -/
theorem om_u_eq {I : Nat → Int → Int} {a : Nat} {f : Int → Int} : om_u I a f a = f := if_pos rfl
theorem om_u_ne {I : Nat → Int → Int} {a b : Nat} {f : Int → Int} (h : b ≠ a) : om_u I a f b = I b := if_neg h
theorem om_p_eq {f : Int → Int} {z v : Int} : om_p f z v z = v := if_pos rfl
theorem om_p_ne {f : Int → Int} {z v y : Int} (h : y ≠ z) : om_p f z v y = f y := if_neg h
theorem om_tm (v : Int) : (if 0 ≤ Int.tmod v 31 then Int.tmod v 31 else Int.tmod v 31 + 31) = v % 31 := by
  by_cases h : 0 ≤ v ∨ (31 : Int) ∣ v
  · have e : Int.tmod v 31 = v % 31 := by rw [Int.tmod_eq_emod, if_pos h]; exact Int.sub_zero _
    rw [e, if_pos (by omega)]
  · have e : Int.tmod v 31 = v % 31 - 31 := by rw [Int.tmod_eq_emod, if_neg h]; rfl
    rw [e, if_neg (by omega)]
    omega
theorem om_tm0 {v : Int} (h : 0 ≤ v) : Int.tmod v 31 = v % 31 := Int.tmod_eq_emod_of_nonneg h
theorem om_tmb (v : Int) : -31 < Int.tmod v 31 ∧ Int.tmod v 31 < 31 := ⟨Int.lt_tmod_of_pos v (by decide), Int.tmod_lt_of_pos v (by decide)⟩
/-- tables of numbers 0 .. 30 -/
def om_r31 (A : Int → Int → Int) : Prop := ∀ i k, 0 ≤ A i k ∧ A i k < 31
theorem om_mb {t x T : Int} (h1 : -T ≤ t) (h2 : t ≤ T) (h3 : 0 ≤ x) (h4 : x < 31) : -(T * 30) ≤ t * x ∧ t * x ≤ T * 30 := by
  have h0 : 0 ≤ T := by omega
  have a1 : (T - t) * x ≥ 0 := Int.mul_nonneg (by omega) h3
  have a2 : (T + t) * x ≥ 0 := Int.mul_nonneg (by omega) h3
  have a3 : T * (30 - x) ≥ 0 := Int.mul_nonneg h0 (by omega)
  rw [Int.sub_mul] at a1
  rw [Int.add_mul] at a2
  rw [Int.mul_sub] at a3
  constructor <;> omega
/-- a table of numbers, 0 outside -/
def om_tb (o w : Int) (f : Int → Int) (i k : Int) : Int := if 0 ≤ i ∧ i < o ∧ 0 ≤ k ∧ k < w then f (i * w + k) else 0
theorem om_ixb {o w i k : Int} (h1 : 0 ≤ i) (h2 : i < o) (h3 : 0 ≤ k) (h4 : k < w) (h5 : o ≤ 100) (h6 : w ≤ 100) : 0 ≤ i * w ∧ i * w + k < o * w ∧ o * w ≤ 10000 := by
  have a1 : 0 ≤ i * w := Int.mul_nonneg h1 (by omega)
  have a2 : (i + 1) * w ≤ o * w := Int.mul_le_mul_of_nonneg_right (by omega) (by omega)
  have a3 : o * w ≤ 100 * 100 := Int.mul_le_mul h5 h6 (by omega) (by omega)
  rw [Int.add_mul] at a2
  omega
theorem om_ixe {w i k i' k' : Int} (h1 : 0 ≤ k) (h2 : k < w) (h3 : 0 ≤ k') (h4 : k' < w) (h : i * w + k = i' * w + k') : i = i' ∧ k = k' := by
  have hw : 0 < w := by omega
  have e1 : (i * w + k) / w = i := by rw [Int.add_comm, Int.add_mul_ediv_right _ _ (by omega), Int.ediv_eq_zero_of_lt h1 h2]; omega
  have e2 : (i' * w + k') / w = i' := by rw [Int.add_comm, Int.add_mul_ediv_right _ _ (by omega), Int.ediv_eq_zero_of_lt h3 h4]; omega
  have e3 : i = i' := by rw [← e1, h, e2]
  subst e3
  exact ⟨rfl, by omega⟩
theorem om_tb_in {o w i k : Int} {f : Int → Int} (h1 : 0 ≤ i) (h2 : i < o) (h3 : 0 ≤ k) (h4 : k < w) : om_tb o w f i k = f (i * w + k) := if_pos ⟨h1, h2, h3, h4⟩
theorem om_tb_out {o w i k : Int} {f : Int → Int} (h : ¬ (0 ≤ i ∧ i < o ∧ 0 ≤ k ∧ k < w)) : om_tb o w f i k = 0 := if_neg h
/-- one number of a table is set -/
theorem om_tb_p {o w i k v : Int} {f : Int → Int} (h1 : 0 ≤ i) (h2 : i < o) (h3 : 0 ≤ k) (h4 : k < w) (i' k' : Int) : om_tb o w (om_p f (i * w + k) v) i' k' = if i' = i ∧ k' = k then v else om_tb o w f i' k' := by
  by_cases hin : 0 ≤ i' ∧ i' < o ∧ 0 ≤ k' ∧ k' < w
  · rw [om_tb_in hin.1 hin.2.1 hin.2.2.1 hin.2.2.2, om_tb_in hin.1 hin.2.1 hin.2.2.1 hin.2.2.2]
    by_cases he : i' = i ∧ k' = k
    · obtain ⟨rfl, rfl⟩ := he
      rw [if_pos ⟨rfl, rfl⟩, om_p_eq]
    · rw [if_neg he, om_p_ne (fun q => he (om_ixe hin.2.2.1 hin.2.2.2 h3 h4 q))]
  · rw [om_tb_out hin, om_tb_out hin, if_neg (by rintro ⟨rfl, rfl⟩; exact hin ⟨h1, h2, h3, h4⟩)]
theorem om_tb_z {o w : Int} {f : Int → Int} (ho : 0 < o) (hw : 0 < w) (h : ∀ z, 0 ≤ z → z < o * w → f z = 0) : om_tb o w f = fun _ _ => 0 := by
  funext i k
  by_cases hin : 0 ≤ i ∧ i < o ∧ 0 ≤ k ∧ k < w
  · rw [om_tb_in hin.1 hin.2.1 hin.2.2.1 hin.2.2.2]
    have a1 : 0 ≤ i * w := Int.mul_nonneg hin.1 (by omega)
    have a2 : (i + 1) * w ≤ o * w := Int.mul_le_mul_of_nonneg_right (by omega) (by omega)
    rw [Int.add_mul] at a2
    exact h _ (by omega) (by omega)
  · rw [om_tb_out hin]
