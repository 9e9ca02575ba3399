/-! rows to walk the small machine by -/
def om_rg (O : List (Nat × Nat × List om_V)) (a ci k : Nat) (K : om_V → Prop) : Prop := match O[a]? with
  | some (c, _, vs) => if c = ci ∧ c < 10 then (match vs[k]? with
    | some v => K v
    | none => False) else False
  | none => False
def om_rp (O : List (Nat × Nat × List om_V)) (mi a ci k : Nat) (v : om_V) (K : List (Nat × Nat × List om_V) → Prop) : Prop := match O[a]? with
  | some (c, n, vs) => if c = ci ∧ c < 10 ∧ k < vs.length ∧ om_fit mi ci k v = true then K (O.set a (c, n, vs.set k v)) else False
  | none => False
def om_ra (O : List (Nat × Nat × List om_V)) (a : Nat) (z : Int) (K : Nat → Prop) : Prop := match O[a]? with
  | some (k, n, vs) => if k = 23 ∧ 0 ≤ z ∧ z < n then (match vs[z.toNat]? with
    | some (.inr (.inl r)) => K r
    | _ => False) else False
  | none => False
def om_rn (O : List (Nat × Nat × List om_V)) (a : Nat) (K : Int → Prop) : Prop := match O[a]? with
  | some (k, n, _) => if 20 ≤ k ∧ k ≤ 23 ∧ om_Z n then K n else False
  | none => False
def om_ab (O : List (Nat × Nat × List om_V)) (a kd : Nat) (z : Int) : Prop := ∃ n vs, O[a]? = some (kd, n, vs) ∧ 0 ≤ z ∧ z < (n : Int)
def om_rv (O : List (Nat × Nat × List om_V)) (a ow : Nat) : Prop := (match O[a]? with
  | some (c, _, _) => c == ow
  | none => false) = true
def om_ac (O : List (Nat × Nat × List om_V)) (a a0 : Nat) (sp dp n : Int) : Prop := ∃ m vs m0 vs0, O[a]? = some (20, m, vs) ∧ O[a0]? = some (20, m0, vs0) ∧ 0 ≤ sp ∧ 0 ≤ dp ∧ 0 ≤ n ∧ sp + n ≤ (m0 : Int) ∧ dp + n ≤ (m : Int)
theorem om_rg_eq {O : List (Nat × Nat × List om_V)} {a ci k n : Nat} {vs : List om_V} {v : om_V} {K : om_V → Prop} (h : O[a]? = some (ci, n, vs)) (hc : ci < 10) (hv : vs[k]? = some v) : om_rg O a ci k K = K v := by
  unfold om_rg
  rw [h]
  dsimp only
  rw [if_pos ⟨rfl, hc⟩, hv]
theorem om_rp_eq {O : List (Nat × Nat × List om_V)} {mi a ci k n : Nat} {vs : List om_V} {v : om_V} {K : List (Nat × Nat × List om_V) → Prop} (h : O[a]? = some (ci, n, vs)) (hc : ci < 10) (hk : k < vs.length) (hf : om_fit mi ci k v = true) : om_rp O mi a ci k v K = K (O.set a (ci, n, vs.set k v)) := by
  unfold om_rp
  rw [h]
  dsimp only
  rw [if_pos ⟨rfl, hc, hk, hf⟩]
theorem om_ra_eq {O : List (Nat × Nat × List om_V)} {a n r : Nat} {z : Int} {vs : List om_V} {K : Nat → Prop} (h : O[a]? = some (23, n, vs)) (h0 : 0 ≤ z) (h1 : z < n) (hv : vs[z.toNat]? = some (.inr (.inl r))) : om_ra O a z K = K r := by
  unfold om_ra
  rw [h]
  dsimp only
  rw [if_pos ⟨rfl, h0, h1⟩, hv]
theorem om_rn_eq {O : List (Nat × Nat × List om_V)} {a k n : Nat} {vs : List om_V} {K : Int → Prop} (h : O[a]? = some (k, n, vs)) (h0 : 20 ≤ k) (h1 : k ≤ 23) (h2 : om_Z n) : om_rn O a K = K n := by
  unfold om_rn
  rw [h]
  dsimp only
  rw [if_pos ⟨h0, h1, h2⟩]
theorem om_ab_eq {O : List (Nat × Nat × List om_V)} {a kd n : Nat} {z : Int} {vs : List om_V} (h : O[a]? = some (kd, n, vs)) : om_ab O a kd z = (0 ≤ z ∧ z < (n : Int)) := by
  apply propext
  constructor
  · rintro ⟨n', vs', h1, h2⟩
    rw [h] at h1
    cases h1
    exact h2
  · exact fun h2 => ⟨n, vs, h, h2⟩
theorem om_rv_eq {O : List (Nat × Nat × List om_V)} {a ow n : Nat} {vs : List om_V} (h : O[a]? = some (ow, n, vs)) : om_rv O a ow = True := by
  unfold om_rv
  rw [h]
  simp
theorem om_ac_eq {O : List (Nat × Nat × List om_V)} {a a0 m m0 : Nat} {sp dp n : Int} {vs vs0 : List om_V} (h : O[a]? = some (20, m, vs)) (h0 : O[a0]? = some (20, m0, vs0)) : om_ac O a a0 sp dp n = (0 ≤ sp ∧ 0 ≤ dp ∧ 0 ≤ n ∧ sp + n ≤ (m0 : Int) ∧ dp + n ≤ (m : Int)) := by
  apply propext
  constructor
  · rintro ⟨m', vs', m0', vs0', h1, h2, h3⟩
    rw [h] at h1
    rw [h0] at h2
    cases h1
    cases h2
    exact h3
  · exact fun h2 => ⟨m, vs, m0, vs0, h, h0, h2⟩
section om_q
variable {sc : Int × (Int → Int)} {d mi pc : Nat} {L st : List om_V} {h : om_H} {O : List (Nat × Nat × List om_V)} {I : Nat → Int → Int} {Q : Option om_V → om_H → Prop}
theorem om_st_eq {ins : Instr} {len : Nat} (c : om_cd mi pc = some (ins, len)) (hl : om_lok ins len = true) : om_step sc mi pc L st h = om_ex sc mi pc ins L st h := by
  unfold om_step
  rw [c]
  dsimp only
  rw [if_pos hl]
theorem om_q_iconst {n : Int} (c : om_cd mi pc = some (.iconst n, 1)) (hz : om_Z n) : om_R sc d mi pc L st h Q = om_R sc d mi (pc + 1) L (.inl n :: st) h Q := om_R_nx (by rw [om_st_eq c rfl]; exact if_pos hz)
theorem om_q_bipush {n : Int} (c : om_cd mi pc = some (.bipush n, 2)) (hz : -128 ≤ n ∧ n ≤ 127) : om_R sc d mi pc L st h Q = om_R sc d mi (pc + 2) L (.inl n :: st) h Q := om_R_nx (by rw [om_st_eq c rfl]; exact if_pos hz)
theorem om_q_sipush {n : Int} (c : om_cd mi pc = some (.sipush n, 3)) (hz : -32768 ≤ n ∧ n ≤ 32767) : om_R sc d mi pc L st h Q = om_R sc d mi (pc + 3) L (.inl n :: st) h Q := om_R_nx (by rw [om_st_eq c rfl]; exact if_pos hz)
theorem om_q_iload {i : Nat} {z : Int} (c : om_cd mi pc = some (.iload i, 2)) (hL : L[i]? = some (.inl z)) : om_R sc d mi pc L st h Q = om_R sc d mi (pc + 2) L (.inl z :: st) h Q := om_R_nx (by rw [om_st_eq c rfl]; show om_ild (pc + 2) L st h i = _; unfold om_ild; rw [hL])
theorem om_q_iload_n {i : Fin 4} {z : Int} (c : om_cd mi pc = some (.iload_n i, 1)) (hL : L[i.val]? = some (.inl z)) : om_R sc d mi pc L st h Q = om_R sc d mi (pc + 1) L (.inl z :: st) h Q := om_R_nx (by rw [om_st_eq c rfl]; show om_ild (pc + 1) L st h i.val = _; unfold om_ild; rw [hL])
theorem om_q_aload {i : Nat} {a : Nat} (c : om_cd mi pc = some (.aload i, 2)) (hL : L[i]? = some (.inr (.inl a))) : om_R sc d mi pc L st h Q = om_R sc d mi (pc + 2) L (.inr (.inl a) :: st) h Q := om_R_nx (by rw [om_st_eq c rfl]; show om_ald (pc + 2) L st h i = _; unfold om_ald; rw [hL])
theorem om_q_aload_n {i : Fin 4} {a : Nat} (c : om_cd mi pc = some (.aload_n i, 1)) (hL : L[i.val]? = some (.inr (.inl a))) : om_R sc d mi pc L st h Q = om_R sc d mi (pc + 1) L (.inr (.inl a) :: st) h Q := om_R_nx (by rw [om_st_eq c rfl]; show om_ald (pc + 1) L st h i.val = _; unfold om_ald; rw [hL])
theorem om_q_sload_n {i : Fin 4} (c : om_cd mi pc = some (.aload_n i, 1)) (hL : L[i.val]? = some (.inr (.inr 2))) : om_R sc d mi pc L st h Q = om_R sc d mi (pc + 1) L (.inr (.inr 2) :: st) h Q := om_R_nx (by rw [om_st_eq c rfl]; show om_ald (pc + 1) L st h i.val = _; unfold om_ald; rw [hL]; rfl)
theorem om_q_istore {i : Nat} {z : Int} (c : om_cd mi pc = some (.istore i, 2)) (hL : i < L.length) : om_R sc d mi pc L (.inl z :: st) h Q = om_R sc d mi (pc + 2) (L.set i (.inl z)) st h Q := om_R_nx (by rw [om_st_eq c rfl]; exact if_pos hL)
theorem om_q_istore_n {i : Fin 4} {z : Int} (c : om_cd mi pc = some (.istore_n i, 1)) (hL : i.val < L.length) : om_R sc d mi pc L (.inl z :: st) h Q = om_R sc d mi (pc + 1) (L.set i.val (.inl z)) st h Q := om_R_nx (by rw [om_st_eq c rfl]; exact if_pos hL)
theorem om_q_astore {i : Nat} {a : Nat} (c : om_cd mi pc = some (.astore i, 2)) (hL : i < L.length) : om_R sc d mi pc L (.inr (.inl a) :: st) h Q = om_R sc d mi (pc + 2) (L.set i (.inr (.inl a))) st h Q := om_R_nx (by rw [om_st_eq c rfl]; exact if_pos hL)
theorem om_q_astore_n {i : Fin 4} {a : Nat} (c : om_cd mi pc = some (.astore_n i, 1)) (hL : i.val < L.length) : om_R sc d mi pc L (.inr (.inl a) :: st) h Q = om_R sc d mi (pc + 1) (L.set i.val (.inr (.inl a))) st h Q := om_R_nx (by rw [om_st_eq c rfl]; exact if_pos hL)
theorem om_q_iinc {i : Nat} {n z : Int} (c : om_cd mi pc = some (.iinc i n, 3)) (hL : L[i]? = some (.inl z)) : om_R sc d mi pc L st h Q = (om_Z (z + n) ∧ om_R sc d mi (pc + 3) (L.set i (.inl (z + n))) st h Q) := om_R_if (by rw [om_st_eq c rfl]; simp only [om_ex]; rw [hL])
theorem om_q_iadd {x y : Int} (c : om_cd mi pc = some (.iadd, 1)) : om_R sc d mi pc L (.inl y :: .inl x :: st) h Q = (om_Z (x + y) ∧ om_R sc d mi (pc + 1) L (.inl (x + y) :: st) h Q) := om_R_if (by rw [om_st_eq c rfl]; rfl)
theorem om_q_isub {x y : Int} (c : om_cd mi pc = some (.isub, 1)) : om_R sc d mi pc L (.inl y :: .inl x :: st) h Q = (om_Z (x - y) ∧ om_R sc d mi (pc + 1) L (.inl (x - y) :: st) h Q) := om_R_if (by rw [om_st_eq c rfl]; rfl)
theorem om_q_imul {x y : Int} (c : om_cd mi pc = some (.imul, 1)) : om_R sc d mi pc L (.inl y :: .inl x :: st) h Q = (om_Z (x * y) ∧ om_R sc d mi (pc + 1) L (.inl (x * y) :: st) h Q) := om_R_if (by rw [om_st_eq c rfl]; rfl)
theorem om_q_idiv {x y : Int} (c : om_cd mi pc = some (.idiv, 1)) : om_R sc d mi pc L (.inl y :: .inl x :: st) h Q = (0 < y ∧ om_R sc d mi (pc + 1) L (.inl (Int.tdiv x y) :: st) h Q) := om_R_if (by rw [om_st_eq c rfl]; rfl)
theorem om_q_irem {x y : Int} (c : om_cd mi pc = some (.irem, 1)) : om_R sc d mi pc L (.inl y :: .inl x :: st) h Q = (0 < y ∧ om_R sc d mi (pc + 1) L (.inl (Int.tmod x y) :: st) h Q) := om_R_if (by rw [om_st_eq c rfl]; rfl)
theorem om_q_ineg {x : Int} (c : om_cd mi pc = some (.ineg, 1)) : om_R sc d mi pc L (.inl x :: st) h Q = (om_Z (-x) ∧ om_R sc d mi (pc + 1) L (.inl (-x) :: st) h Q) := om_R_if (by rw [om_st_eq c rfl]; rfl)
theorem om_q_iand {x : Int} (c : om_cd mi pc = some (.iand, 1)) : om_R sc d mi pc L (.inl 31 :: .inl x :: st) h Q = om_R sc d mi (pc + 1) L (.inl (x % 32) :: st) h Q := om_R_nx (by rw [om_st_eq c rfl]; simp [om_ex])
theorem om_q_i2c {x : Int} (c : om_cd mi pc = some (.i2c, 1)) : om_R sc d mi pc L (.inl x :: st) h Q = om_R sc d mi (pc + 1) L (.inl (x % 65536) :: st) h Q := om_R_nx (by rw [om_st_eq c rfl]; rfl)
theorem om_q_dup {v : om_V} (c : om_cd mi pc = some (.dup, 1)) : om_R sc d mi pc L (v :: st) h Q = om_R sc d mi (pc + 1) L (v :: v :: st) h Q := om_R_nx (by rw [om_st_eq c rfl]; rfl)
theorem om_q_goto {off : Int} {t : Nat} (c : om_cd mi pc = some (.goto off, 3)) (ht : om_go pc off = some t) : om_R sc d mi pc L st h Q = om_R sc d mi t L st h Q := om_R_nx (by rw [om_st_eq c rfl]; simp only [om_ex]; rw [ht])
theorem om_R_bn {p1 p2 : Nat} {L' st' : List om_V} {h' : om_H} {c : Prop} [Decidable c] (e : om_step sc mi pc L st h = om_nx (if decide (¬ c) then p1 else p2) L' st' h') : om_R sc d mi pc L st h Q = if c then om_R sc d mi p2 L' st' h' Q else om_R sc d mi p1 L' st' h' Q := by
  rw [om_R_br e]
  by_cases hc : c <;> simp [hc]
theorem om_q_ifeq {off x : Int} {t : Nat} (c : om_cd mi pc = some (.ifCond .eq off, 3)) (ht : om_go pc off = some t) : om_R sc d mi pc L (.inl x :: st) h Q = if x = 0 then om_R sc d mi t L st h Q else om_R sc d mi (pc + 3) L st h Q := om_R_br (by rw [om_st_eq c rfl]; simp only [om_ex]; rw [ht]; rfl)
theorem om_q_ifne {off x : Int} {t : Nat} (c : om_cd mi pc = some (.ifCond .ne off, 3)) (ht : om_go pc off = some t) : om_R sc d mi pc L (.inl x :: st) h Q = if x = 0 then om_R sc d mi (pc + 3) L st h Q else om_R sc d mi t L st h Q := om_R_bn (by rw [om_st_eq c rfl]; simp only [om_ex]; rw [ht]; rfl)
theorem om_q_iflt {off x : Int} {t : Nat} (c : om_cd mi pc = some (.ifCond .lt off, 3)) (ht : om_go pc off = some t) : om_R sc d mi pc L (.inl x :: st) h Q = if x < 0 then om_R sc d mi t L st h Q else om_R sc d mi (pc + 3) L st h Q := om_R_br (by rw [om_st_eq c rfl]; simp only [om_ex]; rw [ht]; rfl)
theorem om_q_ifge {off x : Int} {t : Nat} (c : om_cd mi pc = some (.ifCond .ge off, 3)) (ht : om_go pc off = some t) : om_R sc d mi pc L (.inl x :: st) h Q = if 0 ≤ x then om_R sc d mi t L st h Q else om_R sc d mi (pc + 3) L st h Q := om_R_br (by rw [om_st_eq c rfl]; simp only [om_ex]; rw [ht]; rfl)
theorem om_q_ifgt {off x : Int} {t : Nat} (c : om_cd mi pc = some (.ifCond .gt off, 3)) (ht : om_go pc off = some t) : om_R sc d mi pc L (.inl x :: st) h Q = if 0 < x then om_R sc d mi t L st h Q else om_R sc d mi (pc + 3) L st h Q := om_R_br (by rw [om_st_eq c rfl]; simp only [om_ex]; rw [ht]; rfl)
theorem om_q_ifle {off x : Int} {t : Nat} (c : om_cd mi pc = some (.ifCond .le off, 3)) (ht : om_go pc off = some t) : om_R sc d mi pc L (.inl x :: st) h Q = if x ≤ 0 then om_R sc d mi t L st h Q else om_R sc d mi (pc + 3) L st h Q := om_R_br (by rw [om_st_eq c rfl]; simp only [om_ex]; rw [ht]; rfl)
theorem om_q_iceq {off x y : Int} {t : Nat} (c : om_cd mi pc = some (.if_icmp .eq off, 3)) (ht : om_go pc off = some t) : om_R sc d mi pc L (.inl y :: .inl x :: st) h Q = if x = y then om_R sc d mi t L st h Q else om_R sc d mi (pc + 3) L st h Q := om_R_br (by rw [om_st_eq c rfl]; simp only [om_ex]; rw [ht]; rfl)
theorem om_q_icne {off x y : Int} {t : Nat} (c : om_cd mi pc = some (.if_icmp .ne off, 3)) (ht : om_go pc off = some t) : om_R sc d mi pc L (.inl y :: .inl x :: st) h Q = if x = y then om_R sc d mi (pc + 3) L st h Q else om_R sc d mi t L st h Q := om_R_bn (by rw [om_st_eq c rfl]; simp only [om_ex]; rw [ht]; rfl)
theorem om_q_iclt {off x y : Int} {t : Nat} (c : om_cd mi pc = some (.if_icmp .lt off, 3)) (ht : om_go pc off = some t) : om_R sc d mi pc L (.inl y :: .inl x :: st) h Q = if x < y then om_R sc d mi t L st h Q else om_R sc d mi (pc + 3) L st h Q := om_R_br (by rw [om_st_eq c rfl]; simp only [om_ex]; rw [ht]; rfl)
theorem om_q_icge {off x y : Int} {t : Nat} (c : om_cd mi pc = some (.if_icmp .ge off, 3)) (ht : om_go pc off = some t) : om_R sc d mi pc L (.inl y :: .inl x :: st) h Q = if y ≤ x then om_R sc d mi t L st h Q else om_R sc d mi (pc + 3) L st h Q := om_R_br (by rw [om_st_eq c rfl]; simp only [om_ex]; rw [ht]; rfl)
theorem om_q_icgt {off x y : Int} {t : Nat} (c : om_cd mi pc = some (.if_icmp .gt off, 3)) (ht : om_go pc off = some t) : om_R sc d mi pc L (.inl y :: .inl x :: st) h Q = if y < x then om_R sc d mi t L st h Q else om_R sc d mi (pc + 3) L st h Q := om_R_br (by rw [om_st_eq c rfl]; simp only [om_ex]; rw [ht]; rfl)
theorem om_q_icle {off x y : Int} {t : Nat} (c : om_cd mi pc = some (.if_icmp .le off, 3)) (ht : om_go pc off = some t) : om_R sc d mi pc L (.inl y :: .inl x :: st) h Q = if x ≤ y then om_R sc d mi t L st h Q else om_R sc d mi (pc + 3) L st h Q := om_R_br (by rw [om_st_eq c rfl]; simp only [om_ex]; rw [ht]; rfl)
theorem om_q_getf {i ci k a : Nat} (c : om_cd mi pc = some (.getfield i, 3)) (hf : om_fl (om_ow mi) i = some (ci, k)) : om_R sc d mi pc L (.inr (.inl a) :: st) (O, I) Q = om_rg O a ci k (fun v => om_R sc d mi (pc + 3) L (v :: st) (O, I) Q) := by
  unfold om_rg
  cases hO : O[a]? with
  | none => exact om_R_no (by rw [om_st_eq c rfl]; simp only [om_ex]; rw [hf]; dsimp only; rw [hO])
  | some q =>
    obtain ⟨c', n, vs⟩ := q
    dsimp only
    by_cases hc : c' = ci ∧ c' < 10
    · rw [if_pos hc]
      cases hv : vs[k]? with
      | none => exact om_R_no (by rw [om_st_eq c rfl]; simp only [om_ex]; rw [hf]; dsimp only; rw [hO]; dsimp only; rw [if_pos hc, hv])
      | some v => exact om_R_nx (by rw [om_st_eq c rfl]; simp only [om_ex]; rw [hf]; dsimp only; rw [hO]; dsimp only; rw [if_pos hc, hv])
    · rw [if_neg hc]
      exact om_R_no (by rw [om_st_eq c rfl]; simp only [om_ex]; rw [hf]; dsimp only; rw [hO]; dsimp only; rw [if_neg hc])
theorem om_q_putf {i ci k a : Nat} {v : om_V} (c : om_cd mi pc = some (.putfield i, 3)) (hf : om_fl (om_ow mi) i = some (ci, k)) : om_R sc d mi pc L (v :: .inr (.inl a) :: st) (O, I) Q = om_rp O mi a ci k v (fun O' => om_R sc d mi (pc + 3) L st (O', I) Q) := by
  unfold om_rp
  cases hO : O[a]? with
  | none => exact om_R_no (by rw [om_st_eq c rfl]; simp only [om_ex]; rw [hf]; dsimp only; rw [hO])
  | some q =>
    obtain ⟨c', n, vs⟩ := q
    dsimp only
    by_cases hc : c' = ci ∧ c' < 10 ∧ k < vs.length ∧ om_fit mi ci k v = true
    · rw [if_pos hc]
      exact om_R_nx (by rw [om_st_eq c rfl]; simp only [om_ex]; rw [hf]; dsimp only; rw [hO]; dsimp only; rw [if_pos hc])
    · rw [if_neg hc]
      exact om_R_no (by rw [om_st_eq c rfl]; simp only [om_ex]; rw [hf]; dsimp only; rw [hO]; dsimp only; rw [if_neg hc])
theorem om_q_xl {kd a : Nat} {z : Int} (e : om_step sc mi pc L (.inl z :: .inr (.inl a) :: st) (O, I) = om_xld (pc + 1) L (.inl z :: .inr (.inl a) :: st) (O, I) kd) : om_R sc d mi pc L (.inl z :: .inr (.inl a) :: st) (O, I) Q = (om_ab O a kd z ∧ om_R sc d mi (pc + 1) L (.inl (I a z) :: st) (O, I) Q) := by
  cases hO : O[a]? with
  | none =>
    rw [om_R_no (by rw [e]; simp only [om_xld]; rw [hO])]
    simp [om_ab, hO]
  | some q =>
    obtain ⟨c', n, vs⟩ := q
    by_cases hc : c' = kd ∧ 0 ≤ z ∧ z < n
    · rw [om_R_nx (pc' := pc + 1) (L' := L) (st' := .inl (I a z) :: st) (h' := (O, I)) (by rw [e]; simp only [om_xld]; rw [hO]; exact if_pos hc)]
      obtain ⟨rfl, hc⟩ := hc
      rw [om_ab_eq hO]
      simp [hc]
    · rw [om_R_no (by rw [e]; simp only [om_xld]; rw [hO]; exact if_neg hc)]
      apply propext
      constructor
      · exact False.elim
      · rintro ⟨⟨n', vs', h1, h2⟩, -⟩
        rw [hO] at h1
        cases h1
        exact hc ⟨rfl, h2⟩
theorem om_q_iaload {a : Nat} {z : Int} (c : om_cd mi pc = some (.iaload, 1)) : om_R sc d mi pc L (.inl z :: .inr (.inl a) :: st) (O, I) Q = (om_ab O a 20 z ∧ om_R sc d mi (pc + 1) L (.inl (I a z) :: st) (O, I) Q) := om_q_xl (by rw [om_st_eq c rfl]; rfl)
theorem om_q_caload {a : Nat} {z : Int} (c : om_cd mi pc = some (.caload, 1)) : om_R sc d mi pc L (.inl z :: .inr (.inl a) :: st) (O, I) Q = (om_ab O a 21 z ∧ om_R sc d mi (pc + 1) L (.inl (I a z) :: st) (O, I) Q) := om_q_xl (by rw [om_st_eq c rfl]; rfl)
theorem om_q_baload {a : Nat} {z : Int} (c : om_cd mi pc = some (.baload, 1)) : om_R sc d mi pc L (.inl z :: .inr (.inl a) :: st) (O, I) Q = (om_ab O a 22 z ∧ om_R sc d mi (pc + 1) L (.inl (I a z) :: st) (O, I) Q) := om_q_xl (by rw [om_st_eq c rfl]; rfl)
theorem om_q_sald {z : Int} (c : om_cd mi pc = some (.iaload, 1)) : om_R sc d mi pc L (.inl z :: .inr (.inr 2) :: st) h Q = ((0 ≤ z ∧ z < sc.1) ∧ om_R sc d mi (pc + 1) L (.inl (sc.2 z) :: st) h Q) := om_R_if (by rw [om_st_eq c rfl]; rfl)
theorem om_q_xs {kd a : Nat} {z x : Int} {ok : Int → Bool} (e : om_step sc mi pc L (.inl x :: .inl z :: .inr (.inl a) :: st) (O, I) = om_xst (pc + 1) L (.inl x :: .inl z :: .inr (.inl a) :: st) (O, I) kd ok) : om_R sc d mi pc L (.inl x :: .inl z :: .inr (.inl a) :: st) (O, I) Q = (om_ab O a kd z ∧ ok x = true ∧ om_R sc d mi (pc + 1) L st (O, om_u I a (om_p (I a) z x)) Q) := by
  cases hO : O[a]? with
  | none =>
    rw [om_R_no (by rw [e]; simp only [om_xst]; rw [hO])]
    simp [om_ab, hO]
  | some q =>
    obtain ⟨c', n, vs⟩ := q
    by_cases hc : c' = kd ∧ 0 ≤ z ∧ z < n ∧ ok x = true
    · rw [om_R_nx (pc' := pc + 1) (L' := L) (st' := st) (h' := (O, om_u I a (om_p (I a) z x))) (by rw [e]; simp only [om_xst]; rw [hO]; exact if_pos hc)]
      obtain ⟨rfl, hc⟩ := hc
      rw [om_ab_eq hO]
      simp [hc]
    · rw [om_R_no (by rw [e]; simp only [om_xst]; rw [hO]; exact if_neg hc)]
      apply propext
      constructor
      · exact False.elim
      · rintro ⟨⟨n', vs', h1, h2⟩, h3, -⟩
        rw [hO] at h1
        cases h1
        exact hc ⟨rfl, h2.1, h2.2, h3⟩
theorem om_q_iastore {a : Nat} {z x : Int} (c : om_cd mi pc = some (.iastore, 1)) : om_R sc d mi pc L (.inl x :: .inl z :: .inr (.inl a) :: st) (O, I) Q = (om_ab O a 20 z ∧ om_R sc d mi (pc + 1) L st (O, om_u I a (om_p (I a) z x)) Q) := by
  rw [om_q_xs (kd := 20) (ok := fun _ => true) (by rw [om_st_eq c rfl]; rfl)]
  simp
theorem om_q_castore {a : Nat} {z x : Int} (c : om_cd mi pc = some (.castore, 1)) : om_R sc d mi pc L (.inl x :: .inl z :: .inr (.inl a) :: st) (O, I) Q = (om_ab O a 21 z ∧ (0 ≤ x ∧ x ≤ 65535) ∧ om_R sc d mi (pc + 1) L st (O, om_u I a (om_p (I a) z x)) Q) := by
  rw [om_q_xs (kd := 21) (ok := fun x => decide (0 ≤ x) && decide (x ≤ 65535)) (by rw [om_st_eq c rfl]; rfl)]
  simp
theorem om_q_bastore {a : Nat} {z x : Int} (c : om_cd mi pc = some (.bastore, 1)) : om_R sc d mi pc L (.inl x :: .inl z :: .inr (.inl a) :: st) (O, I) Q = (om_ab O a 22 z ∧ (x = 0 ∨ x = 1) ∧ om_R sc d mi (pc + 1) L st (O, om_u I a (om_p (I a) z x)) Q) := by
  rw [om_q_xs (kd := 22) (ok := fun x => decide (x = 0) || decide (x = 1)) (by rw [om_st_eq c rfl]; rfl)]
  simp
theorem om_q_aaload {a : Nat} {z : Int} (c : om_cd mi pc = some (.aaload, 1)) : om_R sc d mi pc L (.inl z :: .inr (.inl a) :: st) (O, I) Q = om_ra O a z (fun r => om_R sc d mi (pc + 1) L (.inr (.inl r) :: st) (O, I) Q) := by
  unfold om_ra
  cases hO : O[a]? with
  | none => exact om_R_no (by rw [om_st_eq c rfl]; simp only [om_ex]; rw [hO])
  | some q =>
    obtain ⟨k, n, vs⟩ := q
    dsimp only
    by_cases hc : k = 23 ∧ 0 ≤ z ∧ z < n
    · rw [if_pos hc]
      split
      · rename_i r hv
        exact om_R_nx (by rw [om_st_eq c rfl]; simp only [om_ex]; rw [hO]; dsimp only; rw [if_pos hc, hv])
      · rename_i hv
        refine om_R_no ?_
        rw [om_st_eq c rfl]; simp only [om_ex]; rw [hO]; dsimp only; rw [if_pos hc]
        split
        · rename_i r h2
          exact absurd h2 (hv r)
        · rfl
    · rw [if_neg hc]
      exact om_R_no (by rw [om_st_eq c rfl]; simp only [om_ex]; rw [hO]; dsimp only; rw [if_neg hc])
theorem om_q_alen {a : Nat} (c : om_cd mi pc = some (.arraylength, 1)) : om_R sc d mi pc L (.inr (.inl a) :: st) (O, I) Q = om_rn O a (fun n => om_R sc d mi (pc + 1) L (.inl n :: st) (O, I) Q) := by
  unfold om_rn
  cases hO : O[a]? with
  | none => exact om_R_no (by rw [om_st_eq c rfl]; simp only [om_ex]; rw [hO])
  | some q =>
    obtain ⟨k, n, vs⟩ := q
    dsimp only
    by_cases hc : 20 ≤ k ∧ k ≤ 23 ∧ om_Z n
    · rw [if_pos hc]
      exact om_R_nx (by rw [om_st_eq c rfl]; simp only [om_ex]; rw [hO]; dsimp only; rw [if_pos hc])
    · rw [if_neg hc]
      exact om_R_no (by rw [om_st_eq c rfl]; simp only [om_ex]; rw [hO]; dsimp only; rw [if_neg hc])
theorem om_q_slen (c : om_cd mi pc = some (.arraylength, 1)) : om_R sc d mi pc L (.inr (.inr 2) :: st) h Q = (om_Z sc.1 ∧ om_R sc d mi (pc + 1) L (.inl sc.1 :: st) h Q) := om_R_if (by rw [om_st_eq c rfl]; rfl)
theorem om_q_min {i w : Nat} {x y : Int} (c : om_cd mi pc = some (.invokestatic i, 3)) (hm : om_mk (om_ow mi) i = some (6, w)) : om_R sc d mi pc L (.inl y :: .inl x :: st) h Q = (st.length ≤ 8 ∧ om_R sc d mi (pc + 3) L (.inl (if x ≤ y then x else y) :: st) h Q) := om_R_if (by rw [om_st_eq c rfl]; simp only [om_ex]; rw [hm]; rfl)
theorem om_q_acp {i w a a0 : Nat} {n dp sp : Int} (c : om_cd mi pc = some (.invokestatic i, 3)) (hm : om_mk (om_ow mi) i = some (4, w)) : om_R sc d mi pc L (.inl n :: .inl dp :: .inr (.inl a) :: .inl sp :: .inr (.inl a0) :: st) (O, I) Q = (om_ac O a a0 sp dp n ∧ st.length ≤ 8 ∧ om_R sc d mi (pc + 3) L st (O, om_u I a (om_cpy (I a0) (I a) sp dp n)) Q) := by
  have e : om_step sc mi pc L (.inl n :: .inl dp :: .inr (.inl a) :: .inl sp :: .inr (.inl a0) :: st) (O, I) = (match O[a]?, O[a0]? with
        | some (k, m, _), some (k0, m0, _) => if k = 20 ∧ k0 = 20 ∧ 0 ≤ sp ∧ 0 ≤ dp ∧ 0 ≤ n ∧ sp + n ≤ m0 ∧ dp + n ≤ m ∧ st.length ≤ 8 then om_nx (pc + 3) L st (O, om_u I a (om_cpy (I a0) (I a) sp dp n)) else none
        | _, _ => none) := by
    rw [om_st_eq c rfl]; simp only [om_ex]; rw [hm]; rfl
  cases h1 : O[a]? with
  | none =>
    rw [om_R_no (by rw [e, h1])]
    simp [om_ac, h1]
  | some q =>
    obtain ⟨k, m, vs⟩ := q
    cases h0 : O[a0]? with
    | none =>
      rw [om_R_no (by rw [e, h1, h0])]
      simp [om_ac, h0]
    | some q =>
      obtain ⟨k0, m0, vs0⟩ := q
      by_cases hc : k = 20 ∧ k0 = 20 ∧ 0 ≤ sp ∧ 0 ≤ dp ∧ 0 ≤ n ∧ sp + n ≤ m0 ∧ dp + n ≤ m ∧ st.length ≤ 8
      · rw [om_R_nx (pc' := pc + 3) (L' := L) (st' := st) (h' := (O, om_u I a (om_cpy (I a0) (I a) sp dp n))) (by rw [e, h1, h0]; exact if_pos hc)]
        obtain ⟨rfl, rfl, hc⟩ := hc
        rw [om_ac_eq h1 h0]
        simp [hc]
      · rw [om_R_no (by rw [e, h1, h0]; exact if_neg hc)]
        apply propext
        constructor
        · exact False.elim
        · rintro ⟨⟨m', vs', m0', vs0', g1, g2, g3⟩, g4, -⟩
          rw [h1] at g1
          rw [h0] at g2
          cases g1
          cases g2
          exact hc ⟨rfl, rfl, g3.1, g3.2.1, g3.2.2.1, g3.2.2.2.1, g3.2.2.2.2, g4⟩
theorem om_R_cl {ci n : Nat} (e : om_step sc mi pc L st h = om_cal (pc + 3) L st ci n) (hn : n ≤ st.length) : om_R sc (d + 1) mi pc L st h Q = ((st.drop n).length ≤ 8 ∧ om_R sc d ci 0 (om_loc ci (st.take n).reverse) [] h (fun v h' => om_R sc (d + 1) mi (pc + 3) L (v.toList ++ st.drop n) h' Q)) := by
  by_cases h8 : (st.drop n).length ≤ 8
  · rw [om_R_ca (by rw [e]; exact if_pos ⟨hn, h8⟩)]
    exact propext ⟨fun q => ⟨h8, q⟩, fun q => q.2⟩
  · rw [om_R_no (by rw [e]; exact if_neg (fun q => h8 q.2))]
    exact propext ⟨False.elim, fun q => h8 q.1⟩
theorem om_q_virt {i ci a n ow : Nat} (c : om_cd mi pc = some (.invokevirtual i, 3)) (hm : om_mk (om_ow mi) i = some (0, ci)) (hp : om_np ci = n) (ho : om_ow ci = ow) (hn : n + 1 ≤ st.length) (hr : st[n]? = some (.inr (.inl a))) : om_R sc (d + 1) mi pc L st (O, I) Q = (om_rv O a ow ∧ (st.drop (n + 1)).length ≤ 8 ∧ om_R sc d ci 0 (om_loc ci (st.take (n + 1)).reverse) [] (O, I) (fun v h' => om_R sc (d + 1) mi (pc + 3) L (v.toList ++ st.drop (n + 1)) h' Q)) := by
  have e : om_step sc mi pc L st (O, I) = if om_rcv st (O, I) n ow = true then om_cal (pc + 3) L st ci (n + 1) else none := by
    subst hp
    subst ho
    rw [om_st_eq c rfl]; simp only [om_ex]; rw [hm]; rfl
  have e2 : om_rv O a ow = (om_rcv st (O, I) n ow = true) := by
    unfold om_rcv om_rv
    rw [hr]
    rfl
  rw [e2]
  by_cases hv : om_rcv st (O, I) n ow = true
  · rw [om_R_cl (by rw [e]; exact if_pos hv) hn]
    exact propext ⟨fun q => ⟨hv, q⟩, fun q => q.2⟩
  · rw [om_R_no (by rw [e]; exact if_neg hv)]
    exact propext ⟨False.elim, fun q => hv q.1⟩
theorem om_q_stat {i ci n : Nat} (c : om_cd mi pc = some (.invokestatic i, 3)) (hm : om_mk (om_ow mi) i = some (1, ci)) (hp : om_np ci = n) (hn : n ≤ st.length) : om_R sc (d + 1) mi pc L st h Q = ((st.drop n).length ≤ 8 ∧ om_R sc d ci 0 (om_loc ci (st.take n).reverse) [] h (fun v h' => om_R sc (d + 1) mi (pc + 3) L (v.toList ++ st.drop n) h' Q)) := om_R_cl (by subst hp; rw [om_st_eq c rfl]; simp only [om_ex]; rw [hm]; rfl) hn
theorem om_q_iret {z : Int} (c : om_cd mi pc = some (.ireturn, 1)) (hk : om_rk mi = 1) : om_R sc d mi pc L [.inl z] h Q = Q (some (.inl z)) h := by
  rw [om_R_rt (c := om_rok mi (some (.inl z))) (by rw [om_st_eq c rfl]; rfl)]
  unfold om_rok
  rw [hk]
  simp
theorem om_q_zret {z : Int} (c : om_cd mi pc = some (.ireturn, 1)) (hk : om_rk mi = 2) : om_R sc d mi pc L [.inl z] h Q = ((z = 0 ∨ z = 1) ∧ Q (some (.inl z)) h) := by
  rw [om_R_rt (c := om_rok mi (some (.inl z))) (by rw [om_st_eq c rfl]; rfl)]
  unfold om_rok
  rw [hk]
  simp
theorem om_q_cret {z : Int} (c : om_cd mi pc = some (.ireturn, 1)) (hk : om_rk mi = 3) : om_R sc d mi pc L [.inl z] h Q = ((0 ≤ z ∧ z ≤ 65535) ∧ Q (some (.inl z)) h) := by
  rw [om_R_rt (c := om_rok mi (some (.inl z))) (by rw [om_st_eq c rfl]; rfl)]
  unfold om_rok
  rw [hk]
  simp
theorem om_q_aret {a : Nat} (c : om_cd mi pc = some (.areturn, 1)) (hk : om_rk mi = 4) : om_R sc d mi pc L [.inr (.inl a)] h Q = Q (some (.inr (.inl a))) h := by
  rw [om_R_rt (c := om_rok mi (some (.inr (.inl a)))) (by rw [om_st_eq c rfl]; rfl)]
  unfold om_rok
  rw [hk]
  simp
theorem om_q_vret (c : om_cd mi pc = some (.return_, 1)) (hk : om_rk mi = 0) : om_R sc d mi pc L [] h Q = Q none h := by
  rw [om_R_rt (c := om_rok mi none) (by rw [om_st_eq c rfl]; rfl)]
  unfold om_rok
  rw [hk]
  simp
theorem om_q_tsw {df lo hi x : Int} {offs : Array Int} {len t : Nat} (c : om_cd mi pc = some (.tableswitch df lo hi offs, len)) (ht : (if x < lo ∨ hi < x then om_go pc df else (offs[(x - lo).toNat]?).bind (om_go pc)) = some t) : om_R sc d mi pc L (.inl x :: st) h Q = om_R sc d mi t L st h Q := om_R_nx (by rw [om_st_eq c rfl]; simp only [om_ex]; rw [ht])
end om_q
