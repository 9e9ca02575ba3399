/-! polynomials at places -/
def on_hv (f : Int → Int) (x : Int) : Int → Nat → Int
  | _, 0 => 0
  | a, n + 1 => f a + x * on_hv f x (a + 1) n
theorem on_hv_ap {f : Int → Int} {x : Int} : ∀ (n : Nat) (a : Int), on_hv f x a (n + 1) = on_hv f x a n + f (a + n) * x ^ n
  | 0, a => by
    show f a + x * 0 = 0 + f (a + 0) * x ^ 0
    rw [Int.add_zero, Int.pow_zero]
    omega
  | n + 1, a => by
    have h := on_hv_ap (f := f) (x := x) n (a + 1)
    show f a + x * on_hv f x (a + 1) (n + 1) = f a + x * on_hv f x (a + 1) n + f (a + ((n + 1 : Nat) : Int)) * x ^ (n + 1)
    rw [h, show a + ((n + 1 : Nat) : Int) = a + 1 + n by omega, Int.pow_succ]
    grind
theorem on_hv_c {f g : Int → Int} {x : Int} : ∀ (n : Nat) (a : Int), (∀ k, a ≤ k → k < a + n → f k = g k) → on_hv f x a n = on_hv g x a n
  | 0, _, _ => rfl
  | n + 1, a, h => by
    show f a + x * on_hv f x (a + 1) n = g a + x * on_hv g x (a + 1) n
    rw [h a (by omega) (by omega), on_hv_c n (a + 1) (fun k p q => h k (by omega) (by omega))]
theorem on_hv_cg {f g : Int → Int} {x : Int} : ∀ (n : Nat) (a : Int), (∀ k, a ≤ k → k < a + n → (f k - g k) % 31 = 0) → (on_hv f x a n - on_hv g x a n) % 31 = 0
  | 0, _, _ => rfl
  | n + 1, a, h => by
    show (f a + x * on_hv f x (a + 1) n - (g a + x * on_hv g x (a + 1) n)) % 31 = 0
    have h1 := h a (by omega) (by omega)
    have h2 := on_dmul (u := x) (on_hv_cg (f := f) (g := g) (x := x) n (a + 1) (fun k p q => h k (by omega) (by omega)))
    rw [Int.mul_comm, Int.mul_comm (on_hv g x (a + 1) n)] at h2
    omega
theorem on_hv_z {f : Int → Int} {x : Int} : ∀ (n : Nat) (a : Int), (∀ k, a ≤ k → k < a + n → f k = 0) → on_hv f x a n = 0
  | 0, _, _ => rfl
  | n + 1, a, h => by
    show f a + x * on_hv f x (a + 1) n = 0
    rw [h a (by omega) (by omega), on_hv_z n (a + 1) (fun k p q => h k (by omega) (by omega)), Int.mul_zero]
    rfl
theorem on_hv_le {f : Int → Int} {x : Int} {n : Nat} : ∀ m : Nat, (∀ k : Int, (n : Int) ≤ k → k < n + m → f k = 0) → on_hv f x 0 (n + m) = on_hv f x 0 n
  | 0, _ => rfl
  | m + 1, h => by
    rw [← Nat.add_assoc, on_hv_ap, h (0 + ((n + m : Nat) : Int)) (by omega) (by omega), Int.zero_mul, Int.add_zero]
    exact on_hv_le m (fun k p q => h k p (by omega))
/-- one coefficient changed -/
theorem on_hv_p {f : Int → Int} {x v : Int} {z : Nat} : ∀ n : Nat, z < n → on_hv (om_p f z v) x 0 n = on_hv f x 0 n + (v - f z) * x ^ z
  | 0, h => by omega
  | n + 1, h => by
    rw [on_hv_ap, on_hv_ap, Int.zero_add]
    by_cases e : z = n
    · subst e
      rw [om_p_eq, on_hv_c (f := om_p f z v) (g := f) z 0 (fun k p q => om_p_ne (by omega))]
      grind
    · rw [om_p_ne (by omega), on_hv_p n (by omega)]
      omega
/-- a root split off -/
theorem on_hv_div {f : Int → Int} {x a : Int} {N : Int} : ∀ (m : Nat) (b : Int), b + m + 1 = N → on_hv f x b (m + 1) = on_hv f a b (m + 1) + (x - a) * on_hv (fun k => on_hv f a (k + 1) (N - k - 1).toNat) x b m
  | 0, b, h => by
    show f b + x * 0 = f b + a * 0 + (x - a) * 0
    omega
  | m + 1, b, h => by
    have h1 := on_hv_div (f := f) (x := x) (a := a) (N := N) m (b + 1) (by omega)
    have h2 : (N - b - 1).toNat = m + 1 := by omega
    show f b + x * on_hv f x (b + 1) (m + 1) = f b + a * on_hv f a (b + 1) (m + 1) + (x - a) * (on_hv f a (b + 1) (N - b - 1).toNat + x * on_hv (fun k => on_hv f a (k + 1) (N - k - 1).toNat) x (b + 1) m)
    rw [h1, h2]
    grind
theorem on_roots : ∀ (n : Nat) (f : Int → Int), n ≤ 31 → (∀ x : Int, 0 ≤ x → x < n → on_hv f x 0 n % 31 = 0) → ∀ k : Int, 0 ≤ k → k < n → f k % 31 = 0
  | 0, f, _, _, k, h1, h2 => by omega
  | n + 1, f, hn, hx, k, k0, k1 => by
    have hr := hx n (by omega) (by omega)
    have hG := on_roots n (fun k => on_hv f n (k + 1) (((n : Int) + 1) - k - 1).toNat) (by omega) (fun x x0 x1 => by
      have h1 := hx x x0 (by omega)
      rw [on_hv_div (a := n) (N := (n : Int) + 1) n 0 (by omega)] at h1
      generalize on_hv (fun k => on_hv f n (k + 1) (((n : Int) + 1) - k - 1).toNat) x 0 n = y at h1 ⊢
      have h2 : (((n : Int) - x) * (y % 31)) % 31 = 0 := by
        have h3 := on_dmul (u := (n : Int) - x) (x := y % 31) (y := y) (by omega)
        have h4 : (x - n) * y = - (y * (n - x)) := by grind
        rw [Int.mul_comm]
        omega
      exact om_p31 (by omega) (by omega) h2)
    have hH : ∀ k : Int, 0 ≤ k → k ≤ (n : Int) + 1 → on_hv f n k ((n : Int) + 1 - k).toNat % 31 = 0 := by
      intro k k0 k1
      by_cases e0 : k = 0
      · subst e0
        rw [show ((n : Int) + 1 - 0).toNat = n + 1 by omega]
        exact hr
      · by_cases e1 : k = (n : Int) + 1
        · rw [show ((n : Int) + 1 - k).toNat = 0 by omega]
          rfl
        · have h := hG (k - 1) (by omega) (by omega)
          have e2 : on_hv f n (k - 1 + 1) (((n : Int) + 1) - (k - 1) - 1).toNat % 31 = 0 := h
          rw [show k - 1 + 1 = k by omega, show (n : Int) + 1 - (k - 1) - 1 = (n : Int) + 1 - k by omega] at e2
          exact e2
    have a1 := hH k k0 (by omega)
    have a2 := hH (k + 1) (by omega) (by omega)
    rw [show ((n : Int) + 1 - k).toNat = ((n : Int) + 1 - (k + 1)).toNat + 1 by omega] at a1
    have a3 : on_hv f n k (((n : Int) + 1 - (k + 1)).toNat + 1) = f k + n * on_hv f n (k + 1) ((n : Int) + 1 - (k + 1)).toNat := rfl
    rw [a3] at a1
    have a4 := on_dmul (u := (n : Int)) (x := on_hv f n (k + 1) ((n : Int) + 1 - (k + 1)).toNat) (y := 0) (by omega)
    rw [Int.zero_mul, Int.mul_comm] at a4
    omega
/-- suffix sums, at a place -/
theorem on_hv_sx {g : Int → Int} {y w : Int} : ∀ (m : Nat) (a : Int), a + m + 1 = w → (on_hv g y a (m + 1) - (om_sx g (w - a).toNat a + (y - 1) * on_hv (fun k => om_sx g (w - k).toNat k) y (a + 1) m)) % 31 = 0
  | 0, a, h => by
    rw [show (w - a).toNat = 1 by omega]
    show (g a + y * 0 - ((g a + 0) % 31 + (y - 1) * 0)) % 31 = 0
    omega
  | m + 1, a, h => by
    have h1 := on_hv_sx (g := g) (y := y) (w := w) m (a + 1) (by omega)
    have e1 : om_sx g (w - a).toNat a = (g a + om_sx g (w - (a + 1)).toNat (a + 1)) % 31 := by
      rw [show (w - a).toNat = (w - (a + 1)).toNat + 1 by omega]
      rfl
    have e2 : on_hv (fun k => om_sx g (w - k).toNat k) y (a + 1) (m + 1) = om_sx g (w - (a + 1)).toNat (a + 1) + y * on_hv (fun k => om_sx g (w - k).toNat k) y (a + 1 + 1) m := rfl
    have e3 : on_hv g y a (m + 1 + 1) = g a + y * on_hv g y (a + 1) (m + 1) := rfl
    rw [e1, e2, e3]
    generalize om_sx g (w - (a + 1)).toNat (a + 1) = H at h1 ⊢
    generalize on_hv (fun k => om_sx g (w - k).toNat k) y (a + 1 + 1) m = Z at h1 ⊢
    generalize on_hv g y (a + 1) (m + 1) = E at h1 ⊢
    have h2 := on_dmul (u := y) h1
    have h3 : E * y - (H + (y - 1) * Z) * y = (g a + y * E) - (g a + H + (y - 1) * (H + y * Z)) := by grind
    rw [h3] at h2
    generalize (y - 1) * (H + y * Z) = V at h2 ⊢
    generalize y * E = U at h2 ⊢
    omega
/-- x + 1 in place of x -/
theorem on_hv_sh {f : Int → Int} {x : Int} {w : Nat} : ∀ n : Nat, n ≤ w → (on_hv (om_ps w f n) x 0 n + x ^ n * on_hv (om_ps w f n) (x + 1) n (w - n) - on_hv f (x + 1) 0 w) % 31 = 0
  | 0, _ => by
    show (0 + x ^ 0 * on_hv f (x + 1) 0 (w - 0) - on_hv f (x + 1) 0 w) % 31 = 0
    rw [Int.pow_zero, Nat.sub_zero]
    omega
  | n + 1, hn => by
    have h := on_hv_sh (f := f) (x := x) (w := w) n (by omega)
    have e0 : om_ps w f (n + 1) = om_pa w (om_ps w f n) n := rfl
    rw [e0]
    generalize om_ps w f n = g at h ⊢
    rw [on_hv_ap, Int.zero_add]
    have e1 : om_pa w g n n = om_sx g ((w : Int) - n).toNat n := if_pos (by omega)
    have e2 : on_hv (om_pa w g n) x 0 n = on_hv g x 0 n := on_hv_c n 0 (fun k p q => if_neg (by omega))
    have e3 : on_hv (om_pa w g n) (x + 1) ((n + 1 : Nat) : Int) (w - (n + 1)) = on_hv (fun k => om_sx g ((w : Int) - k).toNat k) (x + 1) (n + 1) (w - (n + 1)) := on_hv_c _ _ (fun k p q => if_pos (by omega))
    rw [e1, e2, e3]
    have h2 := on_hv_sx (g := g) (y := x + 1) (w := w) (w - (n + 1)) n (by omega)
    rw [show w - (n + 1) + 1 = w - n by omega, show x + 1 - 1 = x by omega] at h2
    generalize on_hv (fun k => om_sx g ((w : Int) - k).toNat k) (x + 1) ((n : Int) + 1) (w - (n + 1)) = Z at h2 ⊢
    generalize om_sx g ((w : Int) - n).toNat n = H at h2 ⊢
    generalize on_hv g (x + 1) n (w - n) = E at h2 h
    have h3 := on_dmul (u := x ^ n) h2
    have h4 : E * x ^ n - (H + x * Z) * x ^ n = x ^ n * E - (H * x ^ n + x ^ (n + 1) * Z) := by
      rw [Int.pow_succ]
      grind
    rw [h4] at h3
    generalize on_hv g x 0 n = L at h ⊢
    generalize x ^ n * E = a at h h3
    generalize H * x ^ n = b at h3 ⊢
    generalize x ^ (n + 1) * Z = c at h3 ⊢
    omega
theorem on_hv_shift {f : Int → Int} {x : Int} {w : Nat} : (on_hv (om_ps w f w) x 0 w - on_hv f (x + 1) 0 w) % 31 = 0 := by
  have h := on_hv_sh (f := f) (x := x) (w := w) w (Nat.le_refl _)
  have e : on_hv (om_ps w f w) (x + 1) w (w - w) = 0 := by rw [Nat.sub_self]; rfl
  rw [e, Int.mul_zero, Int.add_zero] at h
  exact h
/-- the rests R_i of T^i -/
def on_Ri (c e : Int) : Nat → Int → Int
  | 0 => fun k => if k = 0 then 1 else 0
  | i + 1 => fun k => (k + 1) * on_Ri c e i (k + 1) + e * on_Ri c e i k + c * on_Ri c e i (k - 1)
theorem on_Ri_su {c e : Int} : ∀ (i : Nat) (k : Int), ¬ (0 ≤ k ∧ k ≤ i) → on_Ri c e i k = 0
  | 0, k, h => if_neg (by omega)
  | i + 1, k, h => by
    show (k + 1) * on_Ri c e i (k + 1) + e * on_Ri c e i k + c * on_Ri c e i (k - 1) = 0
    rw [on_Ri_su i k (by omega), on_Ri_su i (k - 1) (by omega)]
    by_cases e1 : k = -1
    · subst e1
      simp
    · rw [on_Ri_su i (k + 1) (by omega)]
      simp
theorem on_Ri_D {c e : Int} : ∀ (i : Nat) (k : Int), (k + 1) * on_Ri c e (i + 1) (k + 1) = ((i : Int) + 1) * c * on_Ri c e i k
  | 0, k => by
    show (k + 1) * ((k + 1 + 1) * (if k + 1 + 1 = 0 then 1 else 0) + e * (if k + 1 = 0 then 1 else 0) + c * (if k + 1 - 1 = 0 then 1 else 0)) = (0 + 1) * c * (if k = 0 then 1 else 0)
    by_cases h1 : k = 0
    · subst h1
      simp
    · by_cases h2 : k = -1
      · subst h2
        simp
      · by_cases h3 : k = -2
        · subst h3
          simp
        · rw [if_neg (by omega), if_neg (by omega), if_neg (by omega), if_neg h1]
          simp
  | i + 1, k => by
    have d0 := on_Ri_D (c := c) (e := e) i k
    have d1 := on_Ri_D (c := c) (e := e) i (k + 1)
    have d2 := on_Ri_D (c := c) (e := e) i (k - 1)
    rw [show k - 1 + 1 = k by omega] at d2
    have e1 : on_Ri c e (i + 1 + 1) (k + 1) = (k + 1 + 1) * on_Ri c e (i + 1) (k + 1 + 1) + e * on_Ri c e (i + 1) (k + 1) + c * on_Ri c e (i + 1) k := by
      show (k + 1 + 1) * on_Ri c e (i + 1) (k + 1 + 1) + e * on_Ri c e (i + 1) (k + 1) + c * on_Ri c e (i + 1) (k + 1 - 1) = _
      rw [show k + 1 - 1 = k by omega]
    have e2 : on_Ri c e (i + 1) k = (k + 1) * on_Ri c e i (k + 1) + e * on_Ri c e i k + c * on_Ri c e i (k - 1) := rfl
    rw [e1, d1, show ((i + 1 : Nat) : Int) = (i : Int) + 1 by omega]
    generalize on_Ri c e (i + 1) (k + 1) = A at d0 ⊢
    generalize on_Ri c e (i + 1) k = B at d2 e2 ⊢
    generalize on_Ri c e i (k + 1) = C at e2 ⊢
    generalize on_Ri c e i k = E at d0 e2 ⊢
    generalize on_Ri c e i (k - 1) = F at d2 e2
    generalize (i : Int) = j at d0 d2 ⊢
    have q1 : (k + 1) * (((j + 1) * c * C) + e * A + c * B) = (j + 1) * c * ((k + 1) * C) + e * ((k + 1) * A) + c * (k * B) + c * B := by grind
    rw [q1, d0, d2]
    have q2 : (k + 1) * C = B - e * E - c * F := by omega
    rw [q2]
    grind
def on_n0 (c e x : Int) : Nat → Int
  | 0 => 1
  | 1 => c * x + e
  | i + 2 => (c * x + e) * on_n0 c e x (i + 1) + ((i : Int) + 1) * c * on_n0 c e x i
def on_n1 (c e x : Int) : Nat → Int
  | 0 => 1
  | i + 1 => on_n1 c e x i * (c * (x + i) + e)
theorem on_n1_s {c e x : Int} : ∀ i : Nat, on_n1 c e x (i + 1) = (c * x + e) * on_n1 c e (x + 1) i
  | 0 => by
    show 1 * (c * (x + ((0 : Nat) : Int)) + e) = (c * x + e) * 1
    rw [Int.one_mul, Int.mul_one]
    simp
  | i + 1 => by
    have h := on_n1_s (c := c) (e := e) (x := x) i
    show on_n1 c e x (i + 1) * (c * (x + ((i + 1 : Nat) : Int)) + e) = (c * x + e) * (on_n1 c e (x + 1) i * (c * (x + 1 + i) + e))
    rw [h, show x + ((i + 1 : Nat) : Int) = x + 1 + i by omega, Int.mul_assoc]
theorem on_hv_low {f : Int → Int} {x : Int} {n : Nat} (h0 : f (-1) = 0) (hn : ∀ k : Int, (n : Int) - 1 ≤ k → f k = 0) (h1 : 1 ≤ n) : on_hv (fun k => f (k - 1)) x 0 n = x * on_hv f x 0 n := by
  obtain ⟨m, rfl⟩ : ∃ m, n = m + 1 := ⟨n - 1, by omega⟩
  have e1 : on_hv (fun k => f (k - 1)) x 0 (m + 1) = f (0 - 1) + x * on_hv (fun k => f (k - 1)) x (0 + 1) m := rfl
  have e2 : ∀ (m : Nat) (a : Int), on_hv (fun k => f (k - 1)) x (a + 1) m = on_hv f x a m := by
    intro m
    induction m with
    | zero => intro a; rfl
    | succ m ih =>
      intro a
      show f (a + 1 - 1) + x * on_hv (fun k => f (k - 1)) x (a + 1 + 1) m = f a + x * on_hv f x (a + 1) m
      rw [ih (a + 1), show a + 1 - 1 = a by omega]
  rw [e1, e2 m 0, on_hv_ap, Int.zero_add, hn m (by omega), Int.zero_mul, Int.add_zero]
  have : f (0 - 1) = 0 := h0
  rw [this, Int.zero_add]
theorem on_hv_add {f g : Int → Int} {a b x : Int} : ∀ (n : Nat) (s : Int), on_hv (fun k => a * f k + b * g k) x s n = a * on_hv f x s n + b * on_hv g x s n
  | 0, s => by
    show (0 : Int) = a * 0 + b * 0
    omega
  | n + 1, s => by
    have h := on_hv_add (f := f) (g := g) (a := a) (b := b) (x := x) n (s + 1)
    show a * f s + b * g s + x * on_hv (fun k => a * f k + b * g k) x (s + 1) n = a * (f s + x * on_hv f x (s + 1) n) + b * (g s + x * on_hv g x (s + 1) n)
    rw [h]
    grind
theorem on_Ri_hv {c e x : Int} : ∀ (i : Nat), i ≤ 6 → on_hv (on_Ri c e i) x 0 8 = on_n0 c e x i
  | 0, _ => by
    rw [show (8 : Nat) = 1 + 7 by rfl, on_hv_le 7 (fun k p q => on_Ri_su 0 k (by omega))]
    show (if (0 : Int) = 0 then 1 else 0) + x * 0 = 1
    simp
  | 1, _ => by
    have e0 : on_Ri c e 1 = fun k => e * on_Ri c e 0 k + c * on_Ri c e 0 (k - 1) := by
      funext k
      show (k + 1) * (if k + 1 = 0 then 1 else 0) + e * on_Ri c e 0 k + c * on_Ri c e 0 (k - 1) = _
      by_cases h : k + 1 = 0
      · rw [h, Int.zero_mul, Int.zero_add]
      · rw [if_neg h, Int.mul_zero, Int.zero_add]
    have h0 := on_Ri_hv (c := c) (e := e) (x := x) 0 (by omega)
    rw [e0, on_hv_add (f := on_Ri c e 0) (g := fun k => on_Ri c e 0 (k - 1)), on_hv_low (on_Ri_su 0 (-1) (by omega)) (fun k p => on_Ri_su 0 k (by omega)) (by omega), h0]
    show e * 1 + c * (x * 1) = c * x + e
    rw [Int.mul_one, Int.mul_one, Int.add_comm]
  | i + 2, hi => by
    have e0 : on_Ri c e (i + 2) = fun k => 1 * (((i : Int) + 1) * c * on_Ri c e i k + e * on_Ri c e (i + 1) k) + c * on_Ri c e (i + 1) (k - 1) := by
      funext k
      show (k + 1) * on_Ri c e (i + 1) (k + 1) + e * on_Ri c e (i + 1) k + c * on_Ri c e (i + 1) (k - 1) = _
      rw [on_Ri_D i k, Int.one_mul]
    have h0 := on_Ri_hv (c := c) (e := e) (x := x) i (by omega)
    have h1 := on_Ri_hv (c := c) (e := e) (x := x) (i + 1) (by omega)
    rw [e0, on_hv_add (f := fun k => ((i : Int) + 1) * c * on_Ri c e i k + e * on_Ri c e (i + 1) k) (g := fun k => on_Ri c e (i + 1) (k - 1)), on_hv_add (f := on_Ri c e i) (g := on_Ri c e (i + 1)), on_hv_low (on_Ri_su (i + 1) (-1) (by omega)) (fun k p => on_Ri_su (i + 1) k (by omega)) (by omega), h0, h1]
    show 1 * (((i : Int) + 1) * c * on_n0 c e x i + e * on_n0 c e x (i + 1)) + c * (x * on_n0 c e x (i + 1)) = (c * x + e) * on_n0 c e x (i + 1) + ((i : Int) + 1) * c * on_n0 c e x i
    grind
