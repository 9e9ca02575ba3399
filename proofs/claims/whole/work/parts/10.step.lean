/-! what a step of the small machine is -/
def om_sz (h : om_H) : Nat := (h.1.map (fun c => c.2.1)).sum
theorem om_sz_set {h : om_H} {a k n k' : Nat} {vs vs' : List om_V} {I : Nat → Int → Int} (ha : h.1[a]? = some (k, n, vs)) : om_sz (h.1.set a (k', n, vs'), I) = om_sz h := by
  unfold om_sz
  congr 1
  apply List.ext_getElem?
  intro j
  rw [List.getElem?_map, List.getElem?_map, List.getElem?_set]
  by_cases hj : a = j
  · subst hj
    rw [if_pos rfl, if_pos (List.getElem?_eq_some_iff.mp ha).1, ha]
    rfl
  · rw [if_neg hj]
theorem om_sz_push {h : om_H} {c : Nat × Nat × List om_V} {I : Nat → Int → Int} : om_sz (h.1 ++ [c], I) = om_sz h + c.2.1 := by
  simp [om_sz]
section om_stp
variable {p : Program} {l : Launch} {e : Env} {R : Room} {s : State} {m : MethodId} {args : Array Value} {below : List Frame} {meth : Method} {c : Code} {Q : State → Prop} {mi : Nat} {D : va_G} {dA : Nat → ClassId} {b bs : Nat} {sc : Int × (Int → Int)} {ad0 : List Nat} {cells slots pc : Nat} {L st : List om_V} {h : om_H}
def om_Nf (p : Program) (l : Launch) (e : Env) (R : Room) (s : State) (m : MethodId) (args : Array Value) (below : List Frame) (meth : Method) (c : Code) (Q : State → Prop) (mi : Nat) (D : va_G) (dA : Nat → ClassId) (b bs : Nat) (sc : Int × (Int → Int)) (ad0 : List Nat) (cells slots pc : Nat) (L st : List om_V) (h : om_H) (pc1 : Nat) (L1 st1 : List om_V) (h1 : om_H) : Prop :=
  (h.1.length ≤ h1.1.length ∧ om_sz h ≤ om_sz h1) ∧ (om_Cx p s m args meth c mi D dA b bs sc → 1 ≤ R.frames → 40 ≤ R.locals → cells + (h1.1.length - h.1.length) ≤ R.cells → slots + (om_sz h1 - om_sz h) ≤ R.slots →
    (om_Gd p l e R s m args below meth c Q mi D dA b bs ad0 (pc1) (L1) (st1) (h1) (cells + (h1.1.length - h.1.length)) (slots + (om_sz h1 - om_sz h))) → (om_Gd p l e R s m args below meth c Q mi D dA b bs ad0 (pc) (L) (st) (h) (cells) (slots)))
/-- the ways of a call -/
def om_Cf (mi pc : Nat) (st : List om_V) (h : om_H) (ci : Nat) (as st1 : List om_V) : Prop :=
  0 < ci ∧ ci < 160 ∧ ci ≠ 33 ∧ st = as.reverse ++ st1 ∧ st1.length ≤ 8 ∧
  ((∃ i a n vs, decode (om_by mi) pc = .ok (.invokevirtual i, 3) ∧ Cond.methodLink (om_cn (om_ow mi)) i (om_y ci) ∈ om_wg ∧ om_st ci = false ∧ om_in ci = false ∧ as.length = om_np ci + 1 ∧ as[0]? = some (.inr (.inl a)) ∧ h.1[a]? = some (om_ow ci, n, vs)) ∨
   (∃ i, decode (om_by mi) pc = .ok (.invokestatic i, 3) ∧ Cond.methodLink (om_cn (om_ow mi)) i (om_y ci) ∈ om_wg ∧ om_st ci = true ∧ as.length = om_np ci) ∨
   (∃ i a, decode (om_by mi) pc = .ok (.invokespecial i, 3) ∧ (Cond.methodLink (om_cn (om_ow mi)) i (om_y ci) ∈ om_wg ∨ (om_ow mi = 8 ∧ i = 17 ∧ om_y ci = ⟨"OreSolver$Output", "<init>", "()V"⟩)) ∧ om_st ci = false ∧ om_in ci = true ∧ as.length = om_np ci + 1 ∧ as[0]? = some (.inr (.inl a))))
def om_Rf (mi pc : Nat) (st : List om_V) (v : Option om_V) : Prop :=
  om_rok mi v = true ∧ ((v = none ∧ st = [] ∧ decode (om_by mi) pc = .ok (.return_, 1)) ∨ (∃ z, v = some (.inl z) ∧ st = [.inl z] ∧ decode (om_by mi) pc = .ok (.ireturn, 1)) ∨ ∃ a, v = some (.inr (.inl a)) ∧ st = [.inr (.inl a)] ∧ decode (om_by mi) pc = .ok (.areturn, 1))
def om_Pf (p : Program) (l : Launch) (e : Env) (R : Room) (s : State) (m : MethodId) (args : Array Value) (below : List Frame) (meth : Method) (c : Code) (Q : State → Prop) (mi : Nat) (D : va_G) (dA : Nat → ClassId) (b bs : Nat) (sc : Int × (Int → Int)) (ad0 : List Nat) (cells slots pc : Nat) (L st : List om_V) (h : om_H) : om_S → Prop
  | .inl (v, h1) => h1 = h ∧ om_Rf mi pc st v
  | .inr (.inl (pc1, L1, st1, h1)) => om_Nf p l e R s m args below meth c Q mi D dA b bs sc ad0 cells slots pc L st h pc1 L1 st1 h1
  | .inr (.inr (ci, as, pc1, L1, st1)) => pc1 = pc + 3 ∧ L1 = L ∧ om_Cf mi pc st h ci as st1
theorem om_same {pc1 : Nat} {L1 st1 : List om_V} {r : om_S} (hr : r = .inr (.inl (pc1, L1, st1, h))) (k : om_Cx p s m args meth c mi D dA b bs sc → 1 ≤ R.frames → 40 ≤ R.locals → cells ≤ R.cells → slots ≤ R.slots → (om_Gd p l e R s m args below meth c Q mi D dA b bs ad0 (pc1) (L1) (st1) (h) (cells) (slots)) → (om_Gd p l e R s m args below meth c Q mi D dA b bs ad0 (pc) (L) (st) (h) (cells) (slots))) : om_Pf p l e R s m args below meth c Q mi D dA b bs sc ad0 cells slots pc L st h r := by
  subst hr
  refine ⟨⟨Nat.le_refl _, Nat.le_refl _⟩, fun C h1 h2 h3 h4 g => ?_⟩
  simp only [Nat.sub_self, Nat.add_zero] at h3 h4 g
  exact k C h1 h2 h3 h4 g
theorem om_like {pc1 : Nat} {L1 st1 : List om_V} {h1 : om_H} {r : om_S} (hr : r = .inr (.inl (pc1, L1, st1, h1))) (e1 : h1.1.length = h.1.length) (e2 : om_sz h1 = om_sz h) (k : om_Cx p s m args meth c mi D dA b bs sc → 1 ≤ R.frames → 40 ≤ R.locals → (om_Gd p l e R s m args below meth c Q mi D dA b bs ad0 (pc1) (L1) (st1) (h1) (cells) (slots)) → (om_Gd p l e R s m args below meth c Q mi D dA b bs ad0 (pc) (L) (st) (h) (cells) (slots))) : om_Pf p l e R s m args below meth c Q mi D dA b bs sc ad0 cells slots pc L st h r := by
  subst hr
  refine ⟨⟨by omega, by omega⟩, fun C h1 h2 h3 h4 g => ?_⟩
  rw [e1, e2] at g
  simp only [Nat.sub_self, Nat.add_zero] at g
  exact k C h1 h2 g
theorem om_more {pc1 : Nat} {L1 st1 : List om_V} {cel : Nat × Nat × List om_V} {r : om_S} (hr : r = .inr (.inl (pc1, L1, st1, (h.1 ++ [cel], h.2)))) (k : om_Cx p s m args meth c mi D dA b bs sc → cells + 1 ≤ R.cells → slots + cel.2.1 ≤ R.slots → (om_Gd p l e R s m args below meth c Q mi D dA b bs ad0 (pc1) (L1) (st1) ((h.1 ++ [cel], h.2)) (cells + 1) (slots + cel.2.1)) → (om_Gd p l e R s m args below meth c Q mi D dA b bs ad0 (pc) (L) (st) (h) (cells) (slots))) : om_Pf p l e R s m args below meth c Q mi D dA b bs sc ad0 cells slots pc L st h r := by
  subst hr
  have e1 : (h.1 ++ [cel]).length - h.1.length = 1 := by simp
  have e2 : om_sz (h.1 ++ [cel], h.2) - om_sz h = cel.2.1 := by rw [om_sz_push]; omega
  refine ⟨⟨by simp, by rw [om_sz_push]; omega⟩, fun C h1 h2 h3 h4 g => ?_⟩
  dsimp only at h3 g
  rw [e1] at h3 g
  rw [e2] at h4 g
  exact k C h3 h4 g
theorem om_ild_i {pc' i : Nat} {r : om_S} (e : om_ild pc' L st h i = some r) : ∃ z, L[i]? = some (.inl z) ∧ r = .inr (.inl (pc', L, .inl z :: st, h)) := by
  unfold om_ild at e
  split at e
  · rename_i z hz
    exact ⟨z, hz, (Option.some.inj e).symm⟩
  · cases e
theorem om_ald_i {pc' i : Nat} {r : om_S} (e : om_ald pc' L st h i = some r) : ∃ z : Nat ⊕ Nat, ((∃ a, z = .inl a) ∨ z = .inr 2) ∧ L[i]? = some (.inr z) ∧ r = .inr (.inl (pc', L, .inr z :: st, h)) := by
  unfold om_ald at e
  split at e
  · rename_i z hz
    exact ⟨.inl z, Or.inl ⟨z, rfl⟩, hz, (Option.some.inj e).symm⟩
  · rename_i hz
    exact ⟨.inr 2, Or.inr rfl, hz, (Option.some.inj e).symm⟩
  · cases e
theorem om_ist_i {pc' i : Nat} {r : om_S} (e : om_ist pc' L st h i = some r) : ∃ z st', st = .inl z :: st' ∧ i < L.length ∧ r = .inr (.inl (pc', L.set i (.inl z), st', h)) := by
  unfold om_ist at e
  split at e
  · rename_i z st'
    split at e
    · rename_i hi
      exact ⟨z, st', rfl, hi, (Option.some.inj e).symm⟩
    · cases e
  · cases e
theorem om_ast_i {pc' i : Nat} {r : om_S} (e : om_ast pc' L st h i = some r) : ∃ z st', st = .inr (.inl z) :: st' ∧ i < L.length ∧ r = .inr (.inl (pc', L.set i (.inr (.inl z)), st', h)) := by
  unfold om_ast at e
  split at e
  · rename_i z st'
    split at e
    · rename_i hi
      exact ⟨z, st', rfl, hi, (Option.some.inj e).symm⟩
    · cases e
  · cases e
theorem om_bin_i {pc' : Nat} {g : Int → Int → Int} {r : om_S} (e : om_bin pc' L st h g = some r) : ∃ x y st', st = .inl y :: .inl x :: st' ∧ om_Z (g x y) ∧ r = .inr (.inl (pc', L, .inl (g x y) :: st', h)) := by
  unfold om_bin at e
  split at e
  · rename_i y x st'
    split at e
    · rename_i hi
      exact ⟨x, y, st', rfl, hi, (Option.some.inj e).symm⟩
    · cases e
  · cases e
theorem om_dv_i {pc' : Nat} {g : Int → Int → Int} {r : om_S} (e : om_dv pc' L st h g = some r) : ∃ x y st', st = .inl y :: .inl x :: st' ∧ 0 < y ∧ r = .inr (.inl (pc', L, .inl (g x y) :: st', h)) := by
  unfold om_dv at e
  split at e
  · rename_i y x st'
    split at e
    · rename_i hi
      exact ⟨x, y, st', rfl, hi, (Option.some.inj e).symm⟩
    · cases e
  · cases e
theorem om_xld_i {pc' kd : Nat} {r : om_S} (e : om_xld pc' L st h kd = some r) : ∃ z a st' n vs, st = .inl z :: .inr (.inl a) :: st' ∧ h.1[a]? = some (kd, n, vs) ∧ (0 ≤ z ∧ z < (n : Int)) ∧ r = .inr (.inl (pc', L, .inl (h.2 a z) :: st', h)) := by
  unfold om_xld at e
  split at e
  · rename_i z a st'
    split at e
    · rename_i k n vs ha
      split at e
      · rename_i hi
        obtain ⟨rfl, h1⟩ := hi
        exact ⟨z, a, st', n, vs, rfl, ha, h1, (Option.some.inj e).symm⟩
      · cases e
    · cases e
  · cases e
theorem om_xst_i {pc' kd : Nat} {ok : Int → Bool} {r : om_S} (e : om_xst pc' L st h kd ok = some r) : ∃ x z a st' n vs, st = .inl x :: .inl z :: .inr (.inl a) :: st' ∧ h.1[a]? = some (kd, n, vs) ∧ (0 ≤ z ∧ z < (n : Int)) ∧ ok x = true ∧ r = .inr (.inl (pc', L, st', (h.1, om_u h.2 a (om_p (h.2 a) z x)))) := by
  unfold om_xst at e
  split at e
  · rename_i x z a st'
    split at e
    · rename_i k n vs ha
      split at e
      · rename_i hi
        obtain ⟨rfl, h1, h2, h3⟩ := hi
        exact ⟨x, z, a, st', n, vs, rfl, ha, ⟨h1, h2⟩, h3, (Option.some.inj e).symm⟩
      · cases e
    · cases e
  · cases e
theorem om_cal_i {pc' ci n : Nat} {r : om_S} (e : om_cal pc' L st ci n = some r) : ∃ as st', st = as.reverse ++ st' ∧ as.length = n ∧ st'.length ≤ 8 ∧ as = (st.take n).reverse ∧ r = .inr (.inr (ci, as, pc', L, st')) := by
  unfold om_cal at e
  split at e
  · rename_i hi
    refine ⟨(st.take n).reverse, st.drop n, by simp, by simp; omega, hi.2, rfl, (Option.some.inj e).symm⟩
  · cases e
theorem om_rcv_i {n ci : Nat} (e : om_rcv st h n ci = true) : ∃ a k vs, st[n]? = some (.inr (.inl a)) ∧ h.1[a]? = some (ci, k, vs) := by
  unfold om_rcv at e
  split at e
  · rename_i a ha
    split at e
    · rename_i c k vs hc
      have : c = ci := by simpa using e
      subst this
      exact ⟨a, k, vs, ha, hc⟩
    · cases e
  · cases e
theorem om_rcv_0 {n : Nat} {as st1 : List om_V} {v : om_V} (h1 : as = (st.take (n + 1)).reverse) (h2 : st[n]? = some v) (h3 : as.length = n + 1) : as[0]? = some v := by
  subst h1
  have hl : n < st.length := (List.getElem?_eq_some_iff.mp h2).1
  rw [List.getElem?_reverse (by rw [List.length_reverse] at h3; omega)]
  rw [List.length_reverse] at h3
  rw [h3]
  simp [List.getElem?_take, h2]
end om_stp
