/-! elimination: what a state of it says -/
def on_kr (W : Int → Int → Int) (u : Int → Int) : Prop := ∀ r, 0 ≤ r → r < 25 → om_sm (fun k => W r k * u k) 14 % 31 = 0
def on_pv (pv : Int → Int) (k : Int) : Bool := decide (0 ≤ pv k)
def on_el (W0 W : Int → Int → Int) (pv : Int → Int) (k : Nat) (R : Int) : Prop := om_r31 W ∧ om_su 25 14 W ∧ (∀ u, on_kr W u ↔ on_kr W0 u) ∧ R = on_pc (on_pv pv) k ∧ ∀ j : Nat, j < k → (pv j = -1 ∧ ∀ r, on_pc (on_pv pv) j ≤ r → W r j = 0) ∨ (pv j = on_pc (on_pv pv) j ∧ ∀ r, 0 ≤ r → r < 25 → W r j = if r = pv j then 1 else 0)
theorem on_el_z {W0 W : Int → Int → Int} {pv : Int → Int} {k : Nat} {R : Int} (h : on_el W0 W pv k R) {j : Nat} (hj : j < k) {r : Int} (hr : R ≤ r) : W r j = 0 := by
  obtain ⟨h1, h2, h3, h4, h5⟩ := h
  rcases h5 j hj with ⟨a, b⟩ | ⟨a, b⟩
  · exact b r (by have := on_pc_le (p := on_pv pv) k (show j ≤ k by omega); omega)
  · have hb := on_pc_b (p := on_pv pv) j
    have hp : on_pv pv j = true := by unfold on_pv; rw [a]; exact decide_eq_true hb.1
    have := on_pc_lt (p := on_pv pv) hj hp
    by_cases h25 : r < 25
    · rw [b r (by omega) h25, if_neg (by omega)]
    · exact h2 r j (by omega)
theorem on_pc_p {pv : Int → Int} {k : Nat} {v : Int} {m : Nat} (h : m ≤ k) : on_pc (on_pv (om_p pv k v)) m = on_pc (on_pv pv) m := on_pc_c (fun j a b => by unfold on_pv om_p; rw [if_neg (by omega)])
theorem on_el_n {W0 W : Int → Int → Int} {pv : Int → Int} {k : Nat} {R : Int} (h : on_el W0 W pv k R) (hz : ∀ r, R ≤ r → r < 25 → W r k = 0) : on_el W0 W (om_p pv k (-1)) (k + 1) R := by
  have hR := h.2.2.2.1
  obtain ⟨h1, h2, h3, h4, h5⟩ := h
  have ek : om_p pv k (-1) k = -1 := if_pos rfl
  refine ⟨h1, h2, h3, ?_, fun j hj => ?_⟩
  · show R = on_pc _ k + (if on_pv (om_p pv k (-1)) k then 1 else 0)
    have : on_pv (om_p pv k (-1)) k = false := by unfold on_pv; rw [ek]; rfl
    rw [this, on_pc_p (Nat.le_refl _), h4]
    simp
  · rw [on_pc_p (show j ≤ k by omega)]
    by_cases e : j = k
    · subst e
      refine Or.inl ⟨ek, fun r hr => ?_⟩
      by_cases h25 : r < 25
      · exact hz r (by omega) h25
      · exact h2 r j (by omega)
    · have e2 : om_p pv k (-1) j = pv j := if_neg (by omega)
      rw [e2]
      exact h5 j (by omega)
def on_swp (W : Int → Int → Int) (a b r k : Int) : Int := if r = a then W b k else if r = b then W a k else W r k
def on_clr (W : Int → Int → Int) (p c r k : Int) : Int := if r = p then (om_pw (W p c) 29 * W p k) % 31 else (W r k - W r c * ((om_pw (W p c) 29 * W p k) % 31)) % 31
theorem on_kr_swp {W : Int → Int → Int} {a b : Int} {u : Int → Int} (ha : 0 ≤ a ∧ a < 25) (hb : 0 ≤ b ∧ b < 25) : on_kr (on_swp W a b) u ↔ on_kr W u := by
  have e : ∀ r, om_sm (fun k => on_swp W a b r k * u k) 14 = if r = a then om_sm (fun k => W b k * u k) 14 else if r = b then om_sm (fun k => W a k * u k) 14 else om_sm (fun k => W r k * u k) 14 := by
    intro r
    unfold on_swp
    by_cases h1 : r = a
    · simp only [if_pos h1]
    · simp only [if_neg h1]
      by_cases h2 : r = b
      · simp only [if_pos h2]
      · simp only [if_neg h2]
  constructor
  · intro h r r0 r1
    by_cases h1 : r = a
    · have := h b hb.1 hb.2
      rw [e b] at this
      by_cases hab : b = a
      · rw [if_pos hab] at this
        rw [h1, ← hab]
        exact this
      · rw [if_neg hab, if_pos rfl] at this
        rw [h1]
        exact this
    · by_cases h2 : r = b
      · have := h a ha.1 ha.2
        rw [e a, if_pos rfl] at this
        rw [h2]
        exact this
      · have := h r r0 r1
        rw [e r, if_neg h1, if_neg h2] at this
        exact this
  · intro h r r0 r1
    rw [e r]
    split
    · exact h b hb.1 hb.2
    · split
      · exact h a ha.1 ha.2
      · exact h r r0 r1
theorem on_kr_clr {W : Int → Int → Int} {p c : Int} {u : Int → Int} (rW : om_r31 W) (hp : 0 ≤ p ∧ p < 25) (hc : W p c ≠ 0) : on_kr (on_clr W p c) u ↔ on_kr W u := by
  have rp := rW p c
  obtain ⟨⟨i1, i2⟩, i3⟩ := om_inv_eq (W p c) (by omega) (by omega)
  generalize hinv : om_pw (W p c) 29 = inv at i1 i2 i3
  have e1 : (om_sm (fun k => on_clr W p c p k * u k) 14 - inv * om_sm (fun k => W p k * u k) 14) % 31 = 0 := by
    rw [← on_sm_mul]
    refine on_sm_cg (fun k _ _ => ?_)
    unfold on_clr
    rw [if_pos rfl, hinv, ← Int.mul_assoc]
    exact on_dmul (by omega)
  have e2 : ∀ r, r ≠ p → (om_sm (fun k => on_clr W p c r k * u k) 14 - (om_sm (fun k => W r k * u k) 14 + (- W r c) * om_sm (fun k => on_clr W p c p k * u k) 14)) % 31 = 0 := by
    intro r hr
    rw [← on_sm_mul, ← on_sm_add]
    refine on_sm_cg (fun k _ _ => ?_)
    have h1 : on_clr W p c r k = (W r k - W r c * on_clr W p c p k) % 31 := by
      unfold on_clr
      rw [if_neg hr, if_pos rfl]
    rw [h1, ← Int.mul_assoc, ← Int.add_mul]
    refine on_dmul ?_
    rw [Int.neg_mul]
    omega
  have key : om_sm (fun k => on_clr W p c p k * u k) 14 % 31 = 0 ↔ om_sm (fun k => W p k * u k) 14 % 31 = 0 := by
    generalize om_sm (fun k => W p k * u k) 14 = x at e1
    generalize om_sm (fun k => on_clr W p c p k * u k) 14 = y at e1
    constructor
    · intro h
      have h1 : (inv * (x % 31)) % 31 = 0 := by
        have z := on_dmul (u := inv) (x := x % 31) (y := x) (by omega)
        rw [Int.mul_comm (x % 31) inv, Int.mul_comm x inv] at z
        omega
      exact om_p31 ⟨i1, i2⟩ (by omega) h1
    · intro h
      have h1 := on_dmul (u := inv) (x := x) (y := 0) (by omega)
      rw [Int.zero_mul, Int.mul_comm] at h1
      omega
  constructor
  · intro h r r0 r1
    by_cases hr : r = p
    · rw [hr]
      exact key.mp (h p hp.1 hp.2)
    · have a := e2 r hr
      have b := h r r0 r1
      have z := on_dmul (u := - W r c) (x := om_sm (fun k => on_clr W p c p k * u k) 14) (y := 0) (by have := h p hp.1 hp.2; omega)
      rw [Int.zero_mul, Int.mul_comm] at z
      omega
  · intro h r r0 r1
    by_cases hr : r = p
    · rw [hr]
      exact key.mpr (h p hp.1 hp.2)
    · have a := e2 r hr
      have b := h r r0 r1
      have z := on_dmul (u := - W r c) (x := om_sm (fun k => on_clr W p c p k * u k) 14) (y := 0) (by have := key.mpr (h p hp.1 hp.2); omega)
      rw [Int.zero_mul, Int.mul_comm] at z
      omega
theorem on_clr_r {W : Int → Int → Int} {p c : Int} : om_r31 (on_clr W p c) := fun r k => by unfold on_clr; split <;> omega
theorem on_clr_su {W : Int → Int → Int} {p c : Int} (hp : 0 ≤ p ∧ p < 25) (h : om_su 25 14 W) : om_su 25 14 (on_clr W p c) := by
  intro r k hn
  unfold on_clr
  by_cases hk : 0 ≤ k ∧ k < 14
  · rw [if_neg (by omega), h r k hn, h r c (by omega), Int.zero_mul]
    rfl
  · rw [h p k (by omega), h r k hn, Int.mul_zero]
    split
    · rfl
    · simp
theorem on_swp_r {W : Int → Int → Int} {a b : Int} (h : om_r31 W) : om_r31 (on_swp W a b) := fun r k => by
  unfold on_swp
  split
  · exact h b k
  · split
    · exact h a k
    · exact h r k
theorem on_swp_su {W : Int → Int → Int} {a b : Int} (ha : 0 ≤ a ∧ a < 25) (hb : 0 ≤ b ∧ b < 25) (h : om_su 25 14 W) : om_su 25 14 (on_swp W a b) := by
  intro r k hn
  unfold on_swp
  split
  · exact h b k (by omega)
  · split
    · exact h a k (by omega)
    · exact h r k hn
theorem on_el_s {W0 W : Int → Int → Int} {pv : Int → Int} {k : Nat} {R row : Int} (h : on_el W0 W pv k R) (hk : k ≤ 12) (hr : R ≤ row ∧ row < 25) (hn : W row k ≠ 0) {x : Int} : on_el W0 (on_clr (on_swp W row R) R k) (om_p (om_p pv k x) k R) (k + 1) (R + 1) := by
  have hz := fun {j : Nat} (hj : j < k) {r : Int} (hr : R ≤ r) => on_el_z h hj hr
  obtain ⟨h1, h2, h3, h4, h5⟩ := h
  have hb := on_pc_b (p := on_pv pv) k
  have r0 : 0 ≤ R ∧ R < 25 := by omega
  have s1 := on_swp_r (a := row) (b := R) h1
  have hc : on_swp W row R R k ≠ 0 := by
    unfold on_swp
    split
    · rename_i e
      rw [e]; exact hn
    · rw [if_pos rfl]; exact hn
  have ek : om_p (om_p pv k x) k R k = R := if_pos rfl
  have old : ∀ j : Nat, j < k → ∀ r, on_clr (on_swp W row R) R k r j = W r j := by
    intro j hj r
    have e0 : on_swp W row R r j = W r j := by
      unfold on_swp
      split
      · rename_i e
        rw [e, hz hj (Int.le_refl _), hz hj hr.1]
      · split
        · rename_i e
          rw [e, hz hj (Int.le_refl _), hz hj hr.1]
        · rfl
    have e1 : on_swp W row R R j = 0 := by
      unfold on_swp
      split
      · exact hz hj (Int.le_refl _)
      · rw [if_pos rfl]; exact hz hj hr.1
    unfold on_clr
    rw [e1, e0, Int.mul_zero]
    have := h1 r j
    split
    · rename_i e
      rw [e, hz hj (Int.le_refl _)]
      rfl
    · simp
      omega
  have rp := s1 R k
  obtain ⟨⟨i1, i2⟩, i3⟩ := om_inv_eq (on_swp W row R R k) (by omega) (by omega)
  refine ⟨on_clr_r, on_clr_su r0 (on_swp_su ⟨by omega, hr.2⟩ r0 h2), fun u => ?_, ?_, fun j hj => ?_⟩
  · rw [on_kr_clr s1 r0 hc, on_kr_swp ⟨by omega, hr.2⟩ r0]
    exact h3 u
  · show R + 1 = on_pc _ k + (if on_pv (om_p (om_p pv k x) k R) k then 1 else 0)
    have : on_pv (om_p (om_p pv k x) k R) k = true := by unfold on_pv; rw [ek]; exact decide_eq_true r0.1
    rw [this, on_pc_p (Nat.le_refl _), on_pc_p (Nat.le_refl _), h4]
    simp
  · rw [on_pc_p (show j ≤ k by omega), on_pc_p (show j ≤ k by omega)]
    by_cases e : j = k
    · subst e
      refine Or.inr ⟨by rw [ek]; exact h4, fun r _ _ => ?_⟩
      rw [ek]
      unfold on_clr
      have i4 : (om_pw (on_swp W row R R j) 29 * on_swp W row R R j) % 31 = 1 := by rw [Int.mul_comm]; exact i3
      rw [i4]
      split
      · rfl
      · rw [Int.mul_one, Int.sub_self]
        rfl
    · have e2 : om_p (om_p pv k x) k R j = pv j := by
        have a : om_p (om_p pv k x) k R j = om_p pv k x j := if_neg (by omega)
        have b : om_p pv k x j = pv j := if_neg (by omega)
        rw [a, b]
      rw [e2]
      rcases h5 j (by omega) with ⟨a, b⟩ | ⟨a, b⟩
      · exact Or.inl ⟨a, fun r hr => by rw [old j (by omega)]; exact b r hr⟩
      · exact Or.inr ⟨a, fun r q1 q2 => by rw [old j (by omega)]; exact b r q1 q2⟩
/-- the equations as they are set up -/
def on_W0 (M : Int → Int → Int) (G : Int → Int) (d r k : Int) : Int := if 0 ≤ r ∧ r < 25 then (if 0 ≤ k ∧ k ≤ d then M r k else if k = 13 then G r else 0) else 0
def on_ex (v : Int → Int) (c k : Int) : Int := if k = 13 then c else v k
theorem on_kr_W0 {M : Int → Int → Int} {G v : Int → Int} {c d : Int} (hd : d ≤ 12) (hv : ∀ k, ¬ (0 ≤ k ∧ k ≤ d) → v k = 0) : on_kr (on_W0 M G d) (on_ex v c) ↔ ∀ r, 0 ≤ r → r < 25 → (on_mv M v r + G r * c) % 31 = 0 := by
  have e : ∀ r, 0 ≤ r → r < 25 → om_sm (fun k => on_W0 M G d r k * on_ex v c k) 14 = on_mv M v r + G r * c := by
    intro r r0 r1
    show om_sm _ 13 + on_W0 M G d r 13 * on_ex v c 13 = _
    have h1 : on_W0 M G d r 13 = G r := by
      unfold on_W0
      rw [if_pos ⟨r0, r1⟩, if_neg (by omega), if_pos rfl]
    have h2 : on_ex v c 13 = c := if_pos rfl
    rw [h1, h2]
    unfold on_mv
    congr 1
    refine om_sm_c (fun k k0 k1 => ?_)
    have h3 : on_ex v c k = v k := if_neg (by omega)
    show on_W0 M G d r k * on_ex v c k = M r k * v k
    rw [h3]
    by_cases hk : k ≤ d
    · unfold on_W0
      rw [if_pos ⟨r0, r1⟩, if_pos ⟨k0, hk⟩]
    · rw [hv k (by omega), Int.mul_zero, Int.mul_zero]
  constructor
  · intro h r r0 r1
    rw [← e r r0 r1]
    exact h r r0 r1
  · intro h r r0 r1
    rw [e r r0 r1]
    exact h r r0 r1
theorem on_el_nos {M W : Int → Int → Int} {G pv : Int → Int} {d R r : Int} (hd : 0 ≤ d ∧ d ≤ 12) (h : on_el (on_W0 M G d) W pv (d + 1).toNat R) (hr : R ≤ r ∧ r < 25) (hn : W r 13 ≠ 0) : on_nos M G d := by
  intro v hv hs
  have hz := fun {j : Nat} (hj : j < (d + 1).toNat) => on_el_z h hj hr.1
  obtain ⟨h1, h2, h3, h4, h5⟩ := h
  have hb := on_pc_b (p := on_pv pv) (d + 1).toNat
  have k := (h3 (on_ex v (-1))).mpr ((on_kr_W0 hd.2 hv).mpr (fun r r0 r1 => by have := hs r r0 r1; omega)) r (by omega) hr.2
  have e : om_sm (fun k => W r k * on_ex v (-1) k) 14 = W r 13 * (-1) := by
    show om_sm _ 13 + W r 13 * on_ex v (-1) 13 = _
    have e2 : on_ex v (-1) 13 = -1 := if_pos rfl
    rw [e2, om_sm_0 (fun k k0 k1 => ?_), Int.zero_add]
    show W r k * on_ex v (-1) k = 0
    by_cases hk : k ≤ d
    · have := hz (j := k.toNat) (by omega)
      rw [Int.toNat_of_nonneg k0] at this
      rw [this, Int.zero_mul]
    · have e3 : on_ex v (-1) k = v k := if_neg (by omega)
      rw [e3, hv k (by omega), Int.mul_zero]
  rw [e] at k
  have := h1 r 13
  omega
theorem on_el_sol {M W : Int → Int → Int} {G pv : Int → Int} {d R D : Int} {X : Int → Int → Int} (hd : 0 ≤ d ∧ d ≤ 12) (h : on_el (on_W0 M G d) W pv (d + 1).toNat R) (hz : ∀ r, R ≤ r → r < 25 → W r 13 = 0) (x0 : ∀ k, X 0 k = if (0 ≤ k ∧ k ≤ d) ∧ 0 ≤ pv k then W (pv k) 13 else 0) (x1 : ∀ j : Nat, (j : Int) ≤ d → pv j < 0 → ∀ k, X (on_pc (fun k => !on_pv pv k) j + 1) k = if k = j then 1 else if (0 ≤ k ∧ k ≤ d) ∧ 0 ≤ pv k then (- W (pv k) j) % 31 else 0) (hD : D = on_pc (fun k => !on_pv pv k) (d + 1).toNat) (rX : om_r31 X) : on_sol M G d D X := by
  have hzz := fun {j : Nat} (hj : j < (d + 1).toNat) {r : Int} (hr : R ≤ r) => on_el_z h hj hr
  obtain ⟨h1, h2, h3, h4, h5⟩ := h
  have hb := on_pc_b (p := on_pv pv) (d + 1).toNat
  have pvk : ∀ k : Int, 0 ≤ k → k ≤ d → 0 ≤ pv k → pv k = on_pc (on_pv pv) k.toNat ∧ ∀ r, 0 ≤ r → r < 25 → W r k = if r = pv k then 1 else 0 := by
    intro k k0 kd hp
    have e := Int.toNat_of_nonneg k0
    rcases h5 k.toNat (by omega) with ⟨a, b⟩ | ⟨a, b⟩
    · rw [e] at a
      omega
    · rw [e] at a b
      exact ⟨a, b⟩
  have pvn : ∀ k : Int, 0 ≤ k → k ≤ d → pv k < 0 → ∀ r, on_pc (on_pv pv) k.toNat ≤ r → W r k = 0 := by
    intro k k0 kd hp
    have e := Int.toNat_of_nonneg k0
    rcases h5 k.toNat (by omega) with ⟨a, b⟩ | ⟨a, b⟩
    · rw [e] at b
      exact b
    · have := on_pc_b (p := on_pv pv) k.toNat
      rw [e] at a
      omega
  have inj : ∀ k k' : Int, 0 ≤ k → k ≤ d → 0 ≤ pv k → 0 ≤ k' → k' ≤ d → 0 ≤ pv k' → pv k = pv k' → k = k' := by
    intro k k' a1 a2 a3 b1 b2 b3 e
    rw [(pvk k a1 a2 a3).1, (pvk k' b1 b2 b3).1] at e
    rcases Int.lt_trichotomy k k' with q | q | q
    · have := on_pc_lt (p := on_pv pv) (m := k.toNat) (n := k'.toNat) (by omega) (by unfold on_pv; rw [Int.toNat_of_nonneg a1]; exact decide_eq_true a3)
      omega
    · exact q
    · have := on_pc_lt (p := on_pv pv) (m := k'.toNat) (n := k.toNat) (by omega) (by unfold on_pv; rw [Int.toNat_of_nonneg b1]; exact decide_eq_true b3)
      omega
  -- a vector on the pivots, at a row
  have srow : ∀ (A : Int → Int), (∀ k, A k ≠ 0 → (0 ≤ k ∧ k ≤ d) ∧ 0 ≤ pv k) → ∀ r, 0 ≤ r → r < 25 → (∀ m : Int, (0 ≤ m ∧ m ≤ d) → 0 ≤ pv m → pv m = r → om_sm (fun k => W r k * A k) 13 = A m) ∧ (R ≤ r → om_sm (fun k => W r k * A k) 13 = 0) := by
    intro A hA r r0 r1
    refine ⟨fun m hm hp hr => ?_, fun hr => ?_⟩
    · rw [on_sm_one (a := m) (fun k k0 k1 kn => ?_) hm.1 (by omega)]
      · show W r m * A m = A m
        rw [(pvk m hm.1 hm.2 hp).2 r r0 r1, if_pos hr.symm, Int.one_mul]
      · show W r k * A k = 0
        by_cases hk : A k = 0
        · rw [hk, Int.mul_zero]
        · obtain ⟨c1, c2⟩ := hA k hk
          rw [(pvk k c1.1 c1.2 c2).2 r r0 r1, if_neg (fun e => kn (inj k m c1.1 c1.2 c2 hm.1 hm.2 hp (by omega))), Int.zero_mul]
    · refine om_sm_0 (fun k k0 k1 => ?_)
      show W r k * A k = 0
      by_cases hk : A k = 0
      · rw [hk, Int.mul_zero]
      · obtain ⟨c1, c2⟩ := hA k hk
        have := hzz (j := k.toNat) (by omega) hr
        rw [Int.toNat_of_nonneg k0] at this
        rw [this, Int.zero_mul]
  have rowof : ∀ r, 0 ≤ r → r < R → ∃ m : Int, (0 ≤ m ∧ m ≤ d) ∧ 0 ≤ pv m ∧ pv m = r := by
    intro r r0 r1
    obtain ⟨m, m1, m2, m3⟩ := on_pc_at (p := on_pv pv) (i := r) (n := (d + 1).toNat) r0 (by omega)
    have m2' : 0 ≤ pv m := of_decide_eq_true m2
    refine ⟨m, by omega, m2', ?_⟩
    have := (pvk m (by omega) (by omega) m2').1
    rw [Int.toNat_natCast] at this
    omega
  have sup0 : ∀ k, X 0 k ≠ 0 → (0 ≤ k ∧ k ≤ d) ∧ 0 ≤ pv k := fun k hk => Decidable.byContradiction (fun q => hk (by rw [x0 k, if_neg q]))
  refine ⟨on_pv pv, fun j j0 jd hp => ?_, fun j jd hp => ?_, fun k hk => ⟨decide_eq_true (sup0 k hk).2, (sup0 k hk).1⟩, ?_, hD, fun i k _ _ => rX i k⟩
  · rintro ⟨v, v1, v2, v3⟩
    have hp' : 0 ≤ pv j := of_decide_eq_true hp
    obtain ⟨e1, e2⟩ := pvk j j0 jd hp'
    have hbj := on_pc_b (p := on_pv pv) j.toNat
    have k := (h3 (on_ex v 0)).mpr ((on_kr_W0 hd.2 (fun k hk => v1 k (by omega))).mpr (fun r r0 r1 => by have := v3 r r0 r1; rw [Int.mul_zero, Int.add_zero]; exact this)) (pv j) hp' (by omega)
    have e : om_sm (fun k => W (pv j) k * on_ex v 0 k) 14 = v j := by
      rw [on_sm_one (a := j) (fun k k0 k1 kn => ?_) j0 (by omega)]
      · show W (pv j) j * on_ex v 0 j = v j
        have a : on_ex v 0 j = v j := if_neg (by omega)
        rw [a, e2 (pv j) hp' (by omega), if_pos rfl, Int.one_mul]
      · show W (pv j) k * on_ex v 0 k = 0
        by_cases hk : k < j
        · have : W (pv j) k = 0 := by
            by_cases hpk : 0 ≤ pv k
            · rw [(pvk k k0 (by omega) hpk).2 (pv j) hp' (by omega), if_neg (fun e => kn (inj k j k0 (by omega) hpk j0 jd hp' e.symm))]
            · refine pvn k k0 (by omega) (by omega) (pv j) ?_
              rw [e1]
              exact on_pc_le _ (by omega)
          rw [this, Int.zero_mul]
        · have : on_ex v 0 k = 0 := by
            unfold on_ex
            split
            · rfl
            · exact v1 k (by omega)
          rw [this, Int.mul_zero]
    rw [e] at k
    omega
  · have hp' : pv j < 0 := by
      have := of_decide_eq_false hp
      omega
    have xx := x1 j jd hp'
    generalize X (on_pc (fun k => !on_pv pv k) j + 1) = Y at xx
    have yj : Y j = 1 := by rw [xx j, if_pos rfl]
    have ysup : ∀ k : Int, k ≠ j → Y k ≠ 0 → on_pv pv k = true ∧ 0 ≤ k ∧ k < j := by
      intro k kn hk
      rw [xx k, if_neg kn] at hk
      by_cases hc : (0 ≤ k ∧ k ≤ d) ∧ 0 ≤ pv k
      · rw [if_pos hc] at hk
        refine ⟨decide_eq_true hc.2, hc.1.1, Decidable.byContradiction (fun q => hk ?_)⟩
        have := pvn j (by omega) jd hp' (pv k) (by
          rw [(pvk k hc.1.1 hc.1.2 hc.2).1, Int.toNat_natCast]
          exact on_pc_le _ (by omega))
        rw [this]
        rfl
      · rw [if_neg hc] at hk
        exact absurd rfl hk
    refine ⟨yj, ysup, ?_⟩
    have yd : ∀ k, ¬ (0 ≤ k ∧ k ≤ d) → Y k = 0 := fun k hk => by rw [xx k, if_neg (by omega), if_neg (fun q => hk q.1)]
    have hk : on_kr W (on_ex Y 0) := by
      intro r r0 r1
      show (om_sm _ 13 + W r 13 * on_ex Y 0 13) % 31 = 0
      have a : on_ex Y 0 13 = 0 := if_pos rfl
      rw [a, Int.mul_zero, Int.add_zero]
      have e : om_sm (fun k => W r k * on_ex Y 0 k) 13 = om_sm (fun k => W r k * (if (0 ≤ k ∧ k ≤ d) ∧ 0 ≤ pv k then (- W (pv k) j) % 31 else 0)) 13 + W r j := by
        have e1 : om_sm (fun k => if k = (j : Int) then W r j else 0) 13 = W r j := by
          rw [on_sm_one (a := j) (fun k _ _ kn => if_neg kn) (by omega) (by omega), if_pos rfl]
        have e0 : om_sm (fun k => W r k * on_ex Y 0 k) 13 = om_sm (fun k => W r k * (if (0 ≤ k ∧ k ≤ d) ∧ 0 ≤ pv k then (- W (pv k) j) % 31 else 0) + (if k = (j : Int) then W r j else 0)) 13 := by
          refine om_sm_c (fun k k0 k1 => ?_)
          have b : on_ex Y 0 k = Y k := if_neg (by omega)
          rw [b, xx k]
          by_cases hkj : k = j
          · rw [if_pos hkj, if_pos hkj, if_neg (by rw [hkj]; omega), hkj, Int.mul_zero, Int.mul_one, Int.zero_add]
          · rw [if_neg hkj, if_neg hkj, Int.add_zero]
        rw [e0, on_sm_add, e1]
      rw [e]
      obtain ⟨s1, s2⟩ := srow (fun k => if (0 ≤ k ∧ k ≤ d) ∧ 0 ≤ pv k then (- W (pv k) j) % 31 else 0) (fun k hk => Decidable.byContradiction (fun q => hk (if_neg q))) r r0 r1
      by_cases hr : r < R
      · obtain ⟨m, m1, m2, m3⟩ := rowof r r0 hr
        rw [s1 m m1 m2 m3, if_pos ⟨m1, m2⟩, m3]
        omega
      · rw [s2 (by omega), Int.zero_add]
        have := hzz (j := j) (by omega) (r := r) (by omega)
        rw [this]
        rfl
    have hk0 := (on_kr_W0 hd.2 yd).mp ((h3 _).mp hk)
    intro r r0 r1
    have := hk0 r r0 r1
    rw [Int.mul_zero, Int.add_zero] at this
    exact this
  · have hk : on_kr W (on_ex (X 0) (-1)) := by
      intro r r0 r1
      show (om_sm _ 13 + W r 13 * on_ex (X 0) (-1) 13) % 31 = 0
      have a : on_ex (X 0) (-1) 13 = -1 := if_pos rfl
      have e0 : om_sm (fun k => W r k * on_ex (X 0) (-1) k) 13 = om_sm (fun k => W r k * X 0 k) 13 := om_sm_c (fun k k0 k1 => by
        have b : on_ex (X 0) (-1) k = X 0 k := if_neg (by omega)
        rw [b])
      rw [a, e0]
      obtain ⟨s1, s2⟩ := srow (X 0) sup0 r r0 r1
      by_cases hr : r < R
      · obtain ⟨m, m1, m2, m3⟩ := rowof r r0 hr
        rw [s1 m m1 m2 m3, x0 m, if_pos ⟨m1, m2⟩, m3]
        omega
      · rw [s2 (by omega), hz r (by omega) r1]
        rfl
    have hk0 := (on_kr_W0 hd.2 (fun k hk => Decidable.byContradiction (fun q => hk (sup0 k q).1))).mp ((h3 _).mp hk)
    intro r r0 r1
    have := hk0 r r0 r1
    omega
