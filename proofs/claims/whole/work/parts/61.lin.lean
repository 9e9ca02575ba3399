/-! linear equations modulo 31: what a solution is, and that it is one alone -/
theorem on_dmul {x y u : Int} (h : (x - y) % 31 = 0) : (x * u - y * u) % 31 = 0 := by
  have e : x - y = 31 * ((x - y) / 31) := by omega
  rw [← Int.sub_mul, e, Int.mul_assoc]
  omega
theorem on_sm_cg {f g : Int → Int} : ∀ {n : Nat}, (∀ k : Int, 0 ≤ k → k < n → (f k - g k) % 31 = 0) → (om_sm f n - om_sm g n) % 31 = 0
  | 0, _ => rfl
  | n + 1, h => by
    have h1 := on_sm_cg (f := f) (g := g) (n := n) (fun k a b => h k a (by omega))
    have h2 := h n (by omega) (by omega)
    show (om_sm f n + f n - (om_sm g n + g n)) % 31 = 0
    omega
theorem on_sm_add {f g : Int → Int} : ∀ n : Nat, om_sm (fun k => f k + g k) n = om_sm f n + om_sm g n
  | 0 => rfl
  | n + 1 => by
    show om_sm (fun k => f k + g k) n + (f n + g n) = om_sm f n + f n + (om_sm g n + g n)
    rw [on_sm_add n]
    omega
theorem on_sm_mul {c : Int} {f : Int → Int} : ∀ n : Nat, om_sm (fun k => c * f k) n = c * om_sm f n
  | 0 => by simp [om_sm]
  | n + 1 => by
    show om_sm (fun k => c * f k) n + c * f n = c * (om_sm f n + f n)
    rw [on_sm_mul n, Int.mul_add]
theorem on_sm_one {f : Int → Int} {a : Int} : ∀ {n : Nat}, (∀ k : Int, 0 ≤ k → k < n → k ≠ a → f k = 0) → 0 ≤ a → a < n → om_sm f n = f a
  | 0, _, h1, h2 => by omega
  | n + 1, h, h1, h2 => by
    show om_sm f n + f n = f a
    by_cases hn : (n : Int) = a
    · rw [om_sm_0 (fun k a b => h k a (by omega) (by omega)), hn, Int.zero_add]
    · rw [on_sm_one (fun k a b c => h k a (by omega) c) h1 (by omega), h n (by omega) (by omega) hn, Int.add_zero]
/-- a matrix times a vector -/
def on_mv (M : Int → Int → Int) (v : Int → Int) (r : Int) : Int := om_sm (fun k => M r k * v k) 13
theorem on_mv_sub {M : Int → Int → Int} {u v : Int → Int} {c r : Int} : on_mv M (fun k => u k - c * v k) r = on_mv M u r - c * on_mv M v r := by
  have h : (fun k => M r k * (u k - c * v k)) = fun k => M r k * u k + (-c) * (M r k * v k) := by
    funext k
    rw [Int.mul_sub, Int.neg_mul, ← Int.sub_eq_add_neg]
    congr 1
    rw [← Int.mul_assoc, ← Int.mul_assoc, Int.mul_comm (M r k) c]
  unfold on_mv
  rw [h, on_sm_add, on_sm_mul, Int.neg_mul]
  rfl
theorem on_mv_cg {M : Int → Int → Int} {u v : Int → Int} {r : Int} (h : ∀ k, 0 ≤ k → k < 13 → (u k - v k) % 31 = 0) : (on_mv M u r - on_mv M v r) % 31 = 0 := by
  refine on_sm_cg (fun k a b => ?_)
  have := on_dmul (u := M r k) (h k a b)
  rw [Int.mul_comm (M r k), Int.mul_comm (M r k)]
  exact this
def on_K (M : Int → Int → Int) (v : Int → Int) : Prop := ∀ r, 0 ≤ r → r < 25 → on_mv M v r % 31 = 0
/-- column j is a combination of those before it -/
def on_dep (M : Int → Int → Int) (j : Int) : Prop := ∃ v : Int → Int, (∀ k, ¬ (0 ≤ k ∧ k ≤ j) → v k = 0) ∧ v j % 31 = 1 ∧ on_K M v
theorem on_top_ex {u : Int → Int} : ∀ {n : Nat}, (∃ k : Int, (0 ≤ k ∧ k < n) ∧ u k % 31 ≠ 0) → ∃ t : Int, (0 ≤ t ∧ t < n) ∧ u t % 31 ≠ 0 ∧ ∀ k : Int, t < k → k < n → u k % 31 = 0
  | 0, ⟨k, h, _⟩ => by omega
  | n + 1, ⟨k, h, hk⟩ => by
    by_cases hn : u n % 31 = 0
    · have hkn : k ≠ n := fun e => hk (by rw [e]; exact hn)
      obtain ⟨t, t1, t2, t3⟩ := on_top_ex (u := u) (n := n) ⟨k, by omega, hk⟩
      refine ⟨t, by omega, t2, fun k' a b => ?_⟩
      by_cases e : k' = n
      · rw [e]; exact hn
      · exact t3 k' a (by omega)
    · exact ⟨n, by omega, hn, fun k' a b => by omega⟩
/-- vectors that stand on columns which are no combinations -/
theorem on_uq {M : Int → Int → Int} {v w : Int → Int} {d : Int} (hd : d ≤ 12) (hs : ∀ k, (v k - w k) % 31 ≠ 0 → (0 ≤ k ∧ k ≤ d) ∧ ¬ on_dep M k) (h : ∀ r, 0 ≤ r → r < 25 → (on_mv M v r - on_mv M w r) % 31 = 0) : ∀ k, (v k - w k) % 31 = 0 := by
  intro k
  refine Decidable.byContradiction (fun hk => ?_)
  obtain ⟨hk1, _⟩ := hs k hk
  obtain ⟨t, t1, t2, t3⟩ := on_top_ex (u := fun k => v k - w k) (n := 13) ⟨k, by omega, hk⟩
  obtain ⟨_, hnd⟩ := hs t t2
  refine hnd ?_
  have tb : 0 < (v t - w t) % 31 ∧ (v t - w t) % 31 < 31 := by
    have : (v t - w t) % 31 ≠ 0 := t2
    omega
  obtain ⟨_, c3⟩ := om_inv_eq ((v t - w t) % 31) tb.1 tb.2
  refine ⟨fun k => if 0 ≤ k ∧ k ≤ t then om_pw ((v t - w t) % 31) 29 * ((v k - w k) % 31) else 0, fun k hk => if_neg hk, ?_, fun r r1 r2 => ?_⟩
  · simp only [if_pos (show 0 ≤ t ∧ t ≤ t by omega)]
    rw [Int.mul_comm]
    exact c3
  · have e1 : (on_mv M (fun k => if 0 ≤ k ∧ k ≤ t then om_pw ((v t - w t) % 31) 29 * ((v k - w k) % 31) else 0) r - om_pw ((v t - w t) % 31) 29 * on_mv M (fun k => v k - 1 * w k) r) % 31 = 0 := by
      generalize om_pw ((v t - w t) % 31) 29 = c
      have e2 : c * on_mv M (fun k => v k - 1 * w k) r = on_mv M (fun k => c * (v k - 1 * w k)) r := by
        unfold on_mv
        rw [← on_sm_mul]
        congr 1
        funext k
        rw [← Int.mul_assoc, ← Int.mul_assoc, Int.mul_comm c]
      rw [e2]
      refine on_mv_cg (fun k k1 k2 => ?_)
      show ((if 0 ≤ k ∧ k ≤ t then c * ((v k - w k) % 31) else 0) - c * (v k - 1 * w k)) % 31 = 0
      rw [Int.one_mul]
      split
      · have h5 := on_dmul (u := c) (x := (v k - w k) % 31) (y := v k - w k) (by omega)
        rw [Int.mul_comm c, Int.mul_comm c]
        exact h5
      · have h5 := t3 k (by omega) (by omega)
        have h6 := on_dmul (u := c) (x := 0) (y := v k - w k) (by omega)
        rw [Int.zero_mul] at h6
        rw [Int.mul_comm c]
        exact h6
    rw [on_mv_sub, Int.one_mul] at e1
    have h7 := on_dmul (u := om_pw ((v t - w t) % 31) 29) (x := on_mv M v r - on_mv M w r) (y := 0) (by have := h r r1 r2; omega)
    rw [Int.zero_mul, Int.mul_comm] at h7
    generalize om_pw ((v t - w t) % 31) 29 * (on_mv M v r - on_mv M w r) = x at e1 h7
    omega
/-- how many of the first n hold -/
def on_pc (p : Int → Bool) : Nat → Int
  | 0 => 0
  | n + 1 => on_pc p n + (if p n then 1 else 0)
theorem on_pc_b {p : Int → Bool} : ∀ n : Nat, 0 ≤ on_pc p n ∧ on_pc p n ≤ n
  | 0 => by simp [on_pc]
  | n + 1 => by
    have := on_pc_b (p := p) n
    unfold on_pc
    split <;> omega
theorem on_pc_le {p : Int → Bool} {m : Nat} : ∀ n : Nat, m ≤ n → on_pc p m ≤ on_pc p n
  | 0, h => by rw [show m = 0 by omega]; exact Int.le_refl _
  | n + 1, h => by
    by_cases e : m = n + 1
    · rw [e]; exact Int.le_refl _
    · have := on_pc_le (p := p) n (show m ≤ n by omega)
      show _ ≤ on_pc p n + (if p n then 1 else 0)
      split <;> omega
theorem on_pc_lt {p : Int → Bool} {m n : Nat} (h : m < n) (hp : p m = true) : on_pc p m < on_pc p n := by
  have := on_pc_le (p := p) n (show m + 1 ≤ n by omega)
  have e : on_pc p (m + 1) = on_pc p m + 1 := by
    show on_pc p m + (if p m then 1 else 0) = _
    rw [if_pos hp]
  omega
theorem on_pc_c {p p' : Int → Bool} : ∀ {n : Nat}, (∀ k : Int, 0 ≤ k → k < n → p k = p' k) → on_pc p n = on_pc p' n
  | 0, _ => rfl
  | n + 1, h => by
    show on_pc p n + (if p n then 1 else 0) = on_pc p' n + (if p' n then 1 else 0)
    rw [on_pc_c (fun k a b => h k a (by omega)), h n (by omega) (by omega)]
theorem on_pc_at {p : Int → Bool} {i : Int} : ∀ {n : Nat}, 0 ≤ i → i < on_pc p n → ∃ m : Nat, m < n ∧ p m = true ∧ on_pc p m = i
  | 0, h1, h2 => by
    have : on_pc p 0 = 0 := rfl
    omega
  | n + 1, h1, h2 => by
    by_cases h : i < on_pc p n
    · obtain ⟨m, m1, m2, m3⟩ := on_pc_at (p := p) h1 h
      exact ⟨m, by omega, m2, m3⟩
    · have e : on_pc p (n + 1) = on_pc p n + (if p n then 1 else 0) := rfl
      rw [e] at h2
      by_cases hp : p n = true
      · rw [if_pos hp] at h2
        exact ⟨n, by omega, hp, by omega⟩
      · rw [if_neg hp] at h2
        omega
def on_sol (M : Int → Int → Int) (G : Int → Int) (d D : Int) (X : Int → Int → Int) : Prop := ∃ p : Int → Bool, (∀ j, 0 ≤ j → j ≤ d → p j = true → ¬ on_dep M j) ∧ (∀ j : Nat, (j : Int) ≤ d → p j = false → X (on_pc (fun k => !p k) j + 1) j = 1 ∧ (∀ k : Int, k ≠ j → X (on_pc (fun k => !p k) j + 1) k ≠ 0 → p k = true ∧ 0 ≤ k ∧ k < j) ∧ on_K M (X (on_pc (fun k => !p k) j + 1))) ∧ (∀ k, X 0 k ≠ 0 → p k = true ∧ 0 ≤ k ∧ k ≤ d) ∧ (∀ r, 0 ≤ r → r < 25 → (on_mv M (X 0) r - G r) % 31 = 0) ∧ D = on_pc (fun k => !p k) (d + 1).toNat ∧ ∀ i k, 0 ≤ i → i ≤ D → 0 ≤ X i k ∧ X i k < 31
def on_nos (M : Int → Int → Int) (G : Int → Int) (d : Int) : Prop := ∀ v : Int → Int, (∀ k, ¬ (0 ≤ k ∧ k ≤ d) → v k = 0) → ¬ ∀ r, 0 ≤ r → r < 25 → (on_mv M v r - G r) % 31 = 0
theorem on_sol_nos {M : Int → Int → Int} {G : Int → Int} {d D : Int} {X : Int → Int → Int} (h : on_sol M G d D X) : ¬ on_nos M G d := by
  obtain ⟨p, h1, h2, h3, h4, h5, h6⟩ := h
  intro hn
  exact hn (X 0) (fun k hk => Decidable.byContradiction (fun q => hk (h3 k q).2)) h4
theorem on_sol_p {M : Int → Int → Int} {d : Int} {X : Int → Int → Int} {p : Int → Bool} (h1 : ∀ j, 0 ≤ j → j ≤ d → p j = true → ¬ on_dep M j) (h2 : ∀ j : Nat, (j : Int) ≤ d → p j = false → X (on_pc (fun k => !p k) j + 1) j = 1 ∧ (∀ k : Int, k ≠ j → X (on_pc (fun k => !p k) j + 1) k ≠ 0 → p k = true ∧ 0 ≤ k ∧ k < j) ∧ on_K M (X (on_pc (fun k => !p k) j + 1))) (j : Int) (j0 : 0 ≤ j) (jd : j ≤ d) : p j = false ↔ on_dep M j := by
  constructor
  · intro hp
    have e : ((j.toNat : Nat) : Int) = j := Int.toNat_of_nonneg j0
    obtain ⟨a1, a2, a3⟩ := h2 j.toNat (by omega) (by rw [e]; exact hp)
    rw [e] at a1 a2
    refine ⟨_, fun k hk => Decidable.byContradiction (fun q => ?_), by rw [a1]; rfl, a3⟩
    by_cases hkj : k = j
    · omega
    · have := (a2 k hkj q).2
      omega
  · intro hd
    cases hp : p j with
    | false => rfl
    | true => exact absurd hd (h1 j j0 jd hp)
theorem on_sol_uq {M : Int → Int → Int} {G : Int → Int} {d D D' : Int} {X X' : Int → Int → Int} (hd : 0 ≤ d ∧ d ≤ 12) (h : on_sol M G d D X) (h' : on_sol M G d D' X') : D = D' ∧ ∀ i k, 0 ≤ i → i ≤ D → X i k = X' i k := by
  obtain ⟨p, h1, h2, h3, h4, h5, h6⟩ := h
  obtain ⟨p', h1', h2', h3', h4', h5', h6'⟩ := h'
  have hp : ∀ j, 0 ≤ j → j ≤ d → p j = p' j := by
    intro j j0 jd
    have a := on_sol_p h1 h2 j j0 jd
    have b := on_sol_p h1' h2' j j0 jd
    cases e : p j with
    | false => exact (b.mpr (a.mp e)).symm
    | true =>
      cases e' : p' j with
      | true => rfl
      | false => rw [a.mpr (b.mp e')] at e; exact absurd e (by decide)
  have hc : ∀ n : Nat, (n : Int) ≤ d + 1 → on_pc (fun k => !p k) n = on_pc (fun k => !p' k) n := fun n hn => on_pc_c (fun k a b => by rw [hp k a (by omega)])
  have hD : D = D' := by rw [h5, h5']; exact hc _ (by omega)
  refine ⟨hD, fun i k i0 iD => ?_⟩
  have fin : (X i k - X' i k) % 31 = 0 → X i k = X' i k := fun h => by
    have a := h6 i k i0 iD
    have b := h6' i k i0 (by omega)
    omega
  refine fin ?_
  by_cases hi : i = 0
  · subst hi
    refine on_uq (M := M) (d := d) hd.2 (fun k hk => ?_) (fun r r0 r1 => ?_) k
    · have : X 0 k ≠ 0 ∨ X' 0 k ≠ 0 := by
        refine Decidable.byContradiction (fun q => hk ?_)
        have e1 : X 0 k = 0 := Decidable.byContradiction (fun z => q (Or.inl z))
        have e2 : X' 0 k = 0 := Decidable.byContradiction (fun z => q (Or.inr z))
        rw [e1, e2]
        rfl
      rcases this with q | q
      · obtain ⟨a, b⟩ := h3 k q
        exact ⟨b, h1 k b.1 b.2 a⟩
      · obtain ⟨a, b⟩ := h3' k q
        exact ⟨b, h1' k b.1 b.2 a⟩
    · have a := h4 r r0 r1
      have b := h4' r r0 r1
      omega
  · obtain ⟨m, m1, m2, m3⟩ := on_pc_at (p := fun k => !p k) (i := i - 1) (n := (d + 1).toNat) (by omega) (by rw [← h5]; omega)
    have pm : p m = false := by
      cases e : p m with
      | false => rfl
      | true => rw [e] at m2; exact absurd m2 (by decide)
    have pm' : p' m = false := by rw [← hp m (by omega) (by omega)]; exact pm
    obtain ⟨a1, a2, a3⟩ := h2 m (by omega) pm
    obtain ⟨b1, b2, b3⟩ := h2' m (by omega) pm'
    rw [← hc m (by omega)] at b1 b2 b3
    have ei : on_pc (fun k => !p k) m + 1 = i := by omega
    rw [ei] at a1 a2 a3 b1 b2 b3
    refine on_uq (M := M) (d := d) hd.2 (fun k hk => ?_) (fun r r0 r1 => ?_) k
    · by_cases hkm : k = m
      · exact absurd (by rw [hkm, a1, b1]; rfl) hk
      · have : X i k ≠ 0 ∨ X' i k ≠ 0 := by
          refine Decidable.byContradiction (fun q => hk ?_)
          have e1 : X i k = 0 := Decidable.byContradiction (fun z => q (Or.inl z))
          have e2 : X' i k = 0 := Decidable.byContradiction (fun z => q (Or.inr z))
          rw [e1, e2]
          rfl
        rcases this with q | q
        · obtain ⟨a, b⟩ := a2 k hkm q
          exact ⟨by omega, h1 k b.1 (by omega) a⟩
        · obtain ⟨a, b⟩ := b2 k hkm q
          exact ⟨by omega, h1' k b.1 (by omega) a⟩
    · have a := a3 r r0 r1
      have b := b3 r r0 r1
      omega
