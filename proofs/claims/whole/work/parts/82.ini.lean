/-! the constructors, by evaluation: cells alone, one local left out -/
abbrev oz_O : Type := List (Nat × Nat × List om_V)
def oz_al (j : Nat) (ins : Instr) : Bool := match ins with
  | .aload_n k => decide (k.val ≠ j)
  | .iload_n k => decide (k.val ≠ j)
  | .istore_n k => decide (k.val ≠ j)
  | .iinc i _ => decide (i ≠ j)
  | .iconst _ => true
  | .bipush _ => true
  | .sipush _ => true
  | .dup => true
  | .new _ => true
  | .newarray _ => true
  | .anewarray _ => true
  | .aastore => true
  | .putfield _ => true
  | .getfield _ => true
  | .invokespecial _ => true
  | .goto _ => true
  | .if_icmp _ _ => true
  | .imul => true
  | .return_ => true
  | _ => false
def oz_st (j mi pc : Nat) (L st : List om_V) (O : oz_O) : Option om_S := match om_cd mi pc with
  | some (ins, len) => if om_lok ins len = true then (if oz_al j ins = true then om_ex (0, fun _ => 0) mi pc ins L st (O, fun _ _ => 0) else none) else none
  | none => none
def oz_ev : Nat → Nat → Nat → Nat → List om_V → List om_V → oz_O → Option (Option om_V × oz_O)
  | _, 0, _, _, _, _, _ => none
  | d, f + 1, mi, pc, L, st, O => match oz_st 100 mi pc L st O with
    | none => none
    | some (.inl r) => some (r.1, r.2.1)
    | some (.inr (.inl r)) => oz_ev d f mi r.1 r.2.1 r.2.2.1 r.2.2.2.1
    | some (.inr (.inr r)) => match d with
      | 0 => none
      | d' + 1 => match oz_ev d' f r.1 0 (om_loc r.1 r.2.1) [] O with
        | none => none
        | some x => oz_ev (d' + 1) f mi r.2.2.1 r.2.2.2.1 (x.1.toList ++ r.2.2.2.2) x.2
def oz_sg (d f j mi : Nat) : Nat → Nat → List om_V → List om_V → oz_O → Option (Nat × List om_V × List om_V × oz_O)
  | 0, pc, L, st, O => some (pc, L, st, O)
  | n + 1, pc, L, st, O => match oz_st j mi pc L st O with
    | some (.inr (.inl r)) => oz_sg d f j mi n r.1 r.2.1 r.2.2.1 r.2.2.2.1
    | some (.inr (.inr r)) => (match oz_ev d f r.1 0 (om_loc r.1 r.2.1) [] O with
      | some x => oz_sg d f j mi n r.2.2.1 r.2.2.2.1 (x.1.toList ++ r.2.2.2.2) x.2
      | none => none)
    | _ => none
def oz_put (j : Nat) (w : om_V) (I : Nat → Int → Int) : om_S → om_S
  | .inl r => .inl (r.1, (r.2.1, I))
  | .inr (.inl r) => .inr (.inl (r.1, r.2.1.set j w, r.2.2.1, (r.2.2.2.1, I)))
  | .inr (.inr r) => .inr (.inr (r.1, r.2.1, r.2.2.1, r.2.2.2.1.set j w, r.2.2.2.2))
theorem oz_ge {L : List om_V} {j k : Nat} {w : om_V} (h : k ≠ j) : (L.set j w)[k]? = L[k]? := List.getElem?_set_ne (fun e => h e.symm)
theorem oz_ss {L : List om_V} {j k : Nat} {w v : om_V} (h : k ≠ j) : (L.set j w).set k v = (L.set k v).set j w := List.set_comm _ _ (fun e => h e.symm)
theorem oz_rc {st : List om_V} {O : oz_O} {I : Nat → Int → Int} {n c : Nat} : om_rcv st (O, I) n c = om_rcv st (O, fun _ _ => 0) n c := rfl
theorem oz_x {sc : Int × (Int → Int)} {j mi pc : Nat} {ins : Instr} {L st : List om_V} {O : oz_O} {I : Nat → Int → Int} {w : om_V} {r : om_S} (ha : oz_al j ins = true) (h : om_ex (0, fun _ => 0) mi pc ins L st (O, fun _ _ => 0) = some r) : om_ex sc mi pc ins (L.set j w) st (O, I) = some (oz_put j w I r) := by
  cases ins <;> simp only [oz_al, decide_eq_true_eq, Bool.false_eq_true] at ha
  all_goals simp only [om_ex, om_nx, om_ild, om_ald, om_ist, om_bin, om_cal] at h ⊢
  all_goals try rw [oz_ge ha]
  all_goals try simp only [oz_rc (I := I)]
  all_goals (repeat' split at h)
  all_goals first
    | (cases h; done)
    | (cases h; simp_all [oz_put, oz_ss, List.length_set]; done)
    | (cases h; simp_all [oz_put, oz_ss, List.length_set]; omega)
    | (cases h; simp_all [oz_put, List.length_set]; exact oz_ss ha)
    | (cases h; simp_all [oz_put, List.length_set]; exact ⟨by assumption, oz_ss ha⟩)
theorem oz_st_ok {sc : Int × (Int → Int)} {j mi pc : Nat} {L st : List om_V} {O : oz_O} {I : Nat → Int → Int} {w : om_V} {r : om_S} (h : oz_st j mi pc L st O = some r) : om_step sc mi pc (L.set j w) st (O, I) = some (oz_put j w I r) := by
  unfold oz_st at h
  unfold om_step
  cases e : om_cd mi pc with
  | none => rw [e] at h; cases h
  | some x =>
    rw [e] at h
    obtain ⟨ins, len⟩ := x
    dsimp only at h ⊢
    by_cases h1 : om_lok ins len = true
    · rw [if_pos h1] at h ⊢
      by_cases h2 : oz_al j ins = true
      · rw [if_pos h2] at h
        exact oz_x h2 h
      · rw [if_neg h2] at h
        cases h
    · rw [if_neg h1] at h
      cases h
def oz_p0 (I : Nat → Int → Int) : om_S → om_S
  | .inl r => .inl (r.1, (r.2.1, I))
  | .inr (.inl r) => .inr (.inl (r.1, r.2.1, r.2.2.1, (r.2.2.2.1, I)))
  | .inr (.inr r) => .inr (.inr r)
theorem oz_x0 {sc : Int × (Int → Int)} {j mi pc : Nat} {ins : Instr} {L st : List om_V} {O : oz_O} {I : Nat → Int → Int} {r : om_S} (ha : oz_al j ins = true) (h : om_ex (0, fun _ => 0) mi pc ins L st (O, fun _ _ => 0) = some r) : om_ex sc mi pc ins L st (O, I) = some (oz_p0 I r) := by
  cases ins <;> simp only [oz_al, decide_eq_true_eq, Bool.false_eq_true] at ha
  all_goals simp only [om_ex, om_nx, om_ild, om_ald, om_ist, om_bin, om_cal] at h ⊢
  all_goals try simp only [oz_rc (I := I)]
  all_goals (repeat' split at h)
  all_goals first
    | (cases h; done)
    | (cases h; simp_all [oz_p0]; done)
    | (cases h; simp_all [oz_p0]; omega)
theorem oz_st_o0 {sc : Int × (Int → Int)} {j mi pc : Nat} {L st : List om_V} {O : oz_O} {I : Nat → Int → Int} {r : om_S} (h : oz_st j mi pc L st O = some r) : om_step sc mi pc L st (O, I) = some (oz_p0 I r) := by
  unfold oz_st at h
  unfold om_step
  cases e : om_cd mi pc with
  | none => rw [e] at h; cases h
  | some x =>
    rw [e] at h
    obtain ⟨ins, len⟩ := x
    dsimp only at h ⊢
    by_cases h1 : om_lok ins len = true
    · rw [if_pos h1] at h ⊢
      by_cases h2 : oz_al j ins = true
      · rw [if_pos h2] at h
        exact oz_x0 h2 h
      · rw [if_neg h2] at h
        cases h
    · rw [if_neg h1] at h
      cases h
theorem oz_ev_ok {sc : Int × (Int → Int)} {I : Nat → Int → Int} : ∀ (f d mi pc : Nat) (L st : List om_V) (O : oz_O) (x : Option om_V × oz_O), oz_ev d f mi pc L st O = some x → om_run sc d f mi pc L st (O, I) = some (x.1, (x.2, I)) := by
  intro f
  induction f with
  | zero => intro d mi pc L st O x h; simp [oz_ev] at h
  | succ f ih =>
    intro d mi pc L st O x h
    rw [oz_ev] at h
    rw [om_run]
    cases e : oz_st 100 mi pc L st O with
    | none => rw [e] at h; cases h
    | some r =>
      rw [e] at h
      rw [oz_st_o0 (sc := sc) (I := I) e]
      rcases r with r | r | r
      · dsimp only [oz_p0] at h ⊢
        injection h with h
        subst h
        rfl
      · dsimp only [oz_p0] at h ⊢
        exact ih _ _ _ _ _ _ _ h
      · dsimp only [oz_p0] at h ⊢
        cases d with
        | zero => cases h
        | succ d =>
          dsimp only at h ⊢
          cases e2 : oz_ev d f r.1 0 (om_loc r.1 r.2.1) [] O with
          | none => rw [e2] at h; cases h
          | some y =>
            rw [e2] at h
            dsimp only at h
            rw [ih _ _ _ _ _ _ _ e2]
            dsimp only
            exact ih _ _ _ _ _ _ _ h
theorem oz_sg_ok {sc : Int × (Int → Int)} {I : Nat → Int → Int} {Q : Option om_V → om_H → Prop} {d f j mi : Nat} {w : om_V} : ∀ (n pc : Nat) (L st : List om_V) (O : oz_O) (x : Nat × List om_V × List om_V × oz_O), oz_sg d f j mi n pc L st O = some x → om_R sc (d + 1) mi x.1 (x.2.1.set j w) x.2.2.1 (x.2.2.2, I) Q → om_R sc (d + 1) mi pc (L.set j w) st (O, I) Q := by
  intro n
  induction n with
  | zero =>
    intro pc L st O x h hq
    injection h with h
    subst h
    exact hq
  | succ n ih =>
    intro pc L st O x h hq
    rw [oz_sg] at h
    cases e : oz_st j mi pc L st O with
    | none => rw [e] at h; cases h
    | some r =>
      rw [e] at h
      have s1 := oz_st_ok (sc := sc) (I := I) (w := w) e
      rcases r with r | r | r
      · cases h
      · dsimp only [oz_put] at h s1
        rw [om_R_nx s1]
        exact ih _ _ _ _ x h hq
      · dsimp only [oz_put] at h s1
        rw [om_R_ca s1]
        cases e2 : oz_ev d f r.1 0 (om_loc r.1 r.2.1) [] O with
        | none => rw [e2] at h; cases h
        | some y =>
          rw [e2] at h
          dsimp only at h
          exact ⟨f, y.1, (y.2, I), oz_ev_ok _ _ _ _ _ _ _ _ e2, ih _ _ _ _ x h hq⟩
/-- the stages -/
def oz_g (x : Option (Nat × List om_V × List om_V × oz_O)) : Nat × List om_V × List om_V × oz_O := x.getD (0, [], [], [])
def oz_ck (o : Option (Nat × List om_V × List om_V × oz_O)) (pc : Nat) (L st : List om_V) : Bool := match o with
  | none => false
  | some x => decide (x.1 = pc) && (decide (x.2.1 = L) && decide (x.2.2.1 = st))
theorem oz_mk {o : Option (Nat × List om_V × List om_V × oz_O)} {pc : Nat} {L st : List om_V} {O : oz_O} (h : oz_ck o pc L st = true) (h5 : (oz_g o).2.2.2 = O) : o = some (pc, L, st, O) := by
  cases o with
  | none => cases h
  | some x =>
    simp only [oz_ck, Bool.and_eq_true, decide_eq_true_eq] at h
    obtain ⟨h1, h2, h3⟩ := h
    subst h1 h2 h3 h5
    rfl
def oz_A : oz_O := (oz_g (oz_sg 58 4000 1 1 131 0 [om_r 0, om_un, om_un] [] [(8, 8, om_def 8)])).2.2.2
def oz_B (s : Int) : oz_O := (oz_g (oz_sg 58 4000 1 1 37 68 [om_r 0, om_un, om_i 8] [om_i s, om_r 20, om_r 20, om_r 0] oz_A)).2.2.2
def oz_C (s : Int) : oz_O := (oz_g (oz_sg 58 4000 1 95 70 0 [om_r 101, om_un] [] (oz_B s ++ [(9, 23, om_def 9)]))).2.2.2
def oz_q0 : Nat → Int := fun n => if n = 5 ∨ n = 11 then -1 else 0
theorem oz_e1 : oz_sg 58 4000 1 1 131 0 [om_r 0, om_un, om_un] [] [(8, 8, om_def 8)] = some (59, [om_r 0, om_un, om_i 8], [om_r 20, om_r 20, om_r 0], oz_A) := oz_mk (by decide +kernel) rfl
theorem oz_e2 : oz_sg 58 4000 1 1 37 68 [om_r 0, om_un, om_i 8] [om_i 0, om_r 20, om_r 20, om_r 0] oz_A = some (149, [om_r 0, om_un, om_i 8], [], oz_B 0) := oz_mk (by decide +kernel) rfl
theorem oz_e3 : oz_sg 58 4000 1 1 37 68 [om_r 0, om_un, om_i 8] [om_i 1, om_r 20, om_r 20, om_r 0] oz_A = some (149, [om_r 0, om_un, om_i 8], [], oz_B 1) := oz_mk (by decide +kernel) rfl
theorem oz_e4 : oz_sg 58 4000 1 95 70 0 [om_r 101, om_un] [] (oz_B 0 ++ [(9, 23, om_def 9)]) = some (143, [om_r 101, om_un], [om_r 101], oz_C 0) := oz_mk (by decide +kernel) rfl
theorem oz_e5 : oz_sg 58 4000 1 95 70 0 [om_r 101, om_un] [] (oz_B 1 ++ [(9, 23, om_def 9)]) = some (143, [om_r 101, om_un], [om_r 101], oz_C 1) := oz_mk (by decide +kernel) rfl
theorem oz_e6 : oz_sg 58 4000 1 95 1 152 [om_r 101, om_un] [om_i 1, om_r 101] (oz_C 0) = some (155, [om_r 101, om_un], [], om_O 0 oz_q0) := oz_mk (by decide +kernel) (by decide +kernel)
theorem oz_e7 : oz_sg 58 4000 1 95 1 152 [om_r 101, om_un] [om_i 0, om_r 101] (oz_C 1) = some (155, [om_r 101, om_un], [], om_O 1 oz_q0) := oz_mk (by decide +kernel) (by decide +kernel)
theorem oz_l1 : (oz_B 0).length = 101 := by decide +kernel
theorem oz_l2 : (oz_B 1).length = 101 := by decide +kernel
