/-! the small machine: ints are Int within the range of an int, cells have numbers in the order of their making -/
abbrev om_V : Type := Int ⊕ (Nat ⊕ Nat)
abbrev om_i (z : Int) : om_V := Sum.inl z
abbrev om_r (a : Nat) : om_V := Sum.inr (Sum.inl a)
abbrev om_un : om_V := Sum.inr (Sum.inr 0)
abbrev om_nu : om_V := Sum.inr (Sum.inr 1)
abbrev om_sc : om_V := Sum.inr (Sum.inr 2)
/-- cells: kind (a class, 20 int[], 21 char[], 22 boolean[], 23 Operator[]), number of slots, fields or references; behind them the numbers in the arrays -/
abbrev om_H : Type := List (Nat × Nat × List om_V) × (Nat → Int → Int)
abbrev om_S : Type := (Option om_V × om_H) ⊕ ((Nat × List om_V × List om_V × om_H) ⊕ (Nat × List om_V × Nat × List om_V × List om_V))
abbrev om_Z (z : Int) : Prop := -2147483648 ≤ z ∧ z ≤ 2147483647
def om_u (I : Nat → Int → Int) (a : Nat) (f : Int → Int) : Nat → Int → Int := fun b => if b = a then f else I b
def om_p (f : Int → Int) (z v : Int) : Int → Int := fun y => if y = z then v else f y
def om_cpy (f g : Int → Int) (sp dp n : Int) : Int → Int := fun y => if dp ≤ y ∧ y < dp + n then f (sp + (y - dp)) else g y
def om_cd (mi pc : Nat) : Option (Instr × Nat) := (om_cs.getD mi []).getD pc none
def om_mi (mi : Nat) : Nat × Nat × Nat × Bool × Bool × Nat := om_mis.getD mi (0, 0, 0, false, false, 0)
abbrev om_ow (mi : Nat) : Nat := (om_mi mi).1
abbrev om_ml (mi : Nat) : Nat := (om_mi mi).2.1
abbrev om_np (mi : Nat) : Nat := (om_mi mi).2.2.1
abbrev om_st (mi : Nat) : Bool := (om_mi mi).2.2.2.1
abbrev om_in (mi : Nat) : Bool := (om_mi mi).2.2.2.2.1
abbrev om_rk (mi : Nat) : Nat := (om_mi mi).2.2.2.2.2
def om_fl (own i : Nat) : Option (Nat × Nat) := (om_fls.find? (fun e => e.1 == own && e.2.1 == i)).map (fun e => (e.2.2.1, e.2.2.2.1))
def om_mk (own i : Nat) : Option (Nat × Nat) := (om_mls.find? (fun e => e.1 == own && e.2.1 == i)).map (fun e => (e.2.2.1, e.2.2.2.1))
def om_ck (own i : Nat) : Option Nat := (om_cls.find? (fun e => e.1 == own && e.2.1 == i)).map (fun e => e.2.2.1)
def om_go (pc : Nat) (off : Int) : Option Nat := if 0 ≤ (pc : Int) + off then some ((pc : Int) + off).toNat else none
def om_nx (pc : Nat) (L st : List om_V) (h : om_H) : Option om_S := some (.inr (.inl (pc, L, st, h)))
def om_cmp (c : ClassFile.Cond) (a b : Int) : Bool := match c with
  | .eq => decide (a = b)
  | .ne => decide (a ≠ b)
  | .lt => decide (a < b)
  | .ge => decide (b ≤ a)
  | .gt => decide (b < a)
  | .le => decide (a ≤ b)
def om_fk (ci k : Nat) : Nat := (om_fks.getD ci []).getD k 9
def om_fT (ci : Nat) : u_T := ((om_cl[ci]?).map (fun q => q.2.1)).getD (fun _ => ("", "", "", false))
def om_fN (ci : Nat) : Nat := ((om_cl[ci]?).map (fun q => q.2.2)).getD 0
def om_fit (mi ci k : Nat) (v : om_V) : Bool :=
  (match om_fk ci k, v with
    | 0, .inl _ => true
    | 1, .inl z => decide (z = 0) || decide (z = 1)
    | 2, .inr (.inl _) => true
    | _, _ => false) && (!(om_fT ci k).2.2.2 || (om_in mi && om_ow mi == ci))
def om_rok (mi : Nat) (v : Option om_V) : Bool := match om_rk mi, v with
  | 0, none => true
  | 1, some (.inl _) => true
  | 2, some (.inl z) => decide (z = 0) || decide (z = 1)
  | 3, some (.inl z) => decide (0 ≤ z) && decide (z ≤ 65535)
  | 4, some (.inr (.inl _)) => true
  | _, _ => false
def om_def (ci : Nat) : List om_V := (om_fks.getD ci []).map (fun k => if k = 2 then om_nu else om_i 0)
def om_lok (ins : Instr) (len : Nat) : Bool := match ins with
  | .tableswitch _ _ _ _ => true
  | .bipush _ | .iload _ | .aload _ | .istore _ | .astore _ | .newarray _ => len == 2
  | .sipush _ | .iinc _ _ | .ifCond _ _ | .if_icmp _ _ | .goto _ | .getfield _ | .putfield _ | .invokevirtual _ | .invokespecial _ | .invokestatic _ | .new _ | .anewarray _ => len == 3
  | _ => len == 1
def om_ild (pc : Nat) (L st : List om_V) (h : om_H) (i : Nat) : Option om_S := match L[i]? with
  | some (.inl z) => om_nx pc L (.inl z :: st) h
  | _ => none
def om_ald (pc : Nat) (L st : List om_V) (h : om_H) (i : Nat) : Option om_S := match L[i]? with
  | some (.inr (.inl a)) => om_nx pc L (.inr (.inl a) :: st) h
  | some (.inr (.inr 2)) => om_nx pc L (.inr (.inr 2) :: st) h
  | _ => none
def om_ist (pc : Nat) (L st : List om_V) (h : om_H) (i : Nat) : Option om_S := match st with
  | .inl z :: st' => if i < L.length then om_nx pc (L.set i (.inl z)) st' h else none
  | _ => none
def om_ast (pc : Nat) (L st : List om_V) (h : om_H) (i : Nat) : Option om_S := match st with
  | .inr (.inl a) :: st' => if i < L.length then om_nx pc (L.set i (.inr (.inl a))) st' h else none
  | _ => none
def om_bin (pc : Nat) (L st : List om_V) (h : om_H) (g : Int → Int → Int) : Option om_S := match st with
  | .inl b :: .inl a :: st' => if om_Z (g a b) then om_nx pc L (.inl (g a b) :: st') h else none
  | _ => none
def om_dv (pc : Nat) (L st : List om_V) (h : om_H) (g : Int → Int → Int) : Option om_S := match st with
  | .inl b :: .inl a :: st' => if 0 < b then om_nx pc L (.inl (g a b) :: st') h else none
  | _ => none
def om_xld (pc : Nat) (L st : List om_V) (h : om_H) (kd : Nat) : Option om_S := match st with
  | .inl z :: .inr (.inl a) :: st' => (match h.1[a]? with
    | some (k, n, _) => if k = kd ∧ 0 ≤ z ∧ z < n then om_nx pc L (.inl (h.2 a z) :: st') h else none
    | none => none)
  | _ => none
def om_xst (pc : Nat) (L st : List om_V) (h : om_H) (kd : Nat) (ok : Int → Bool) : Option om_S := match st with
  | .inl x :: .inl z :: .inr (.inl a) :: st' => (match h.1[a]? with
    | some (k, n, _) => if k = kd ∧ 0 ≤ z ∧ z < n ∧ ok x = true then om_nx pc L st' (h.1, om_u h.2 a (om_p (h.2 a) z x)) else none
    | none => none)
  | _ => none
def om_cal (pc : Nat) (L st : List om_V) (cal n : Nat) : Option om_S :=
  if n ≤ st.length ∧ (st.drop n).length ≤ 8 then some (.inr (.inr (cal, (st.take n).reverse, pc, L, st.drop n))) else none
def om_rcv (st : List om_V) (h : om_H) (n ci : Nat) : Bool := match st[n]? with
  | some (.inr (.inl a)) => (match h.1[a]? with
    | some (c, _, _) => c == ci
    | none => false)
  | _ => false
def om_ex (sc : Int × (Int → Int)) (mi pc : Nat) (ins : Instr) (L st : List om_V) (h : om_H) : Option om_S := match ins with
  | .iconst n => if om_Z n then om_nx (pc + 1) L (.inl n :: st) h else none
  | .bipush n => if -128 ≤ n ∧ n ≤ 127 then om_nx (pc + 2) L (.inl n :: st) h else none
  | .sipush n => if -32768 ≤ n ∧ n ≤ 32767 then om_nx (pc + 3) L (.inl n :: st) h else none
  | .iload_n k => om_ild (pc + 1) L st h k.val
  | .iload i => om_ild (pc + 2) L st h i
  | .aload_n k => om_ald (pc + 1) L st h k.val
  | .aload i => om_ald (pc + 2) L st h i
  | .istore_n k => om_ist (pc + 1) L st h k.val
  | .istore i => om_ist (pc + 2) L st h i
  | .astore_n k => om_ast (pc + 1) L st h k.val
  | .astore i => om_ast (pc + 2) L st h i
  | .iinc i n => (match L[i]? with
    | some (.inl z) => if om_Z (z + n) then om_nx (pc + 3) (L.set i (.inl (z + n))) st h else none
    | _ => none)
  | .iadd => om_bin (pc + 1) L st h (fun a b => a + b)
  | .isub => om_bin (pc + 1) L st h (fun a b => a - b)
  | .imul => om_bin (pc + 1) L st h (fun a b => a * b)
  | .idiv => om_dv (pc + 1) L st h (fun a b => Int.tdiv a b)
  | .irem => om_dv (pc + 1) L st h (fun a b => Int.tmod a b)
  | .ineg => (match st with
    | .inl a :: st' => if om_Z (-a) then om_nx (pc + 1) L (.inl (-a) :: st') h else none
    | _ => none)
  | .iand => (match st with
    | .inl b :: .inl a :: st' => if b = 31 then om_nx (pc + 1) L (.inl (a % 32) :: st') h else none
    | _ => none)
  | .i2c => (match st with
    | .inl a :: st' => om_nx (pc + 1) L (.inl (a % 65536) :: st') h
    | _ => none)
  | .dup => (match st with
    | v :: st' => om_nx (pc + 1) L (v :: v :: st') h
    | _ => none)
  | .ifCond c off => (match st, om_go pc off with
    | .inl a :: st', some t => om_nx (if om_cmp c a 0 then t else pc + 3) L st' h
    | _, _ => none)
  | .if_icmp c off => (match st, om_go pc off with
    | .inl b :: .inl a :: st', some t => om_nx (if om_cmp c a b then t else pc + 3) L st' h
    | _, _ => none)
  | .goto off => (match om_go pc off with
    | some t => om_nx t L st h
    | none => none)
  | .tableswitch df lo hi offs => (match st with
    | .inl a :: st' => (match (if a < lo ∨ hi < a then om_go pc df else (offs[(a - lo).toNat]?).bind (om_go pc)) with
      | some t => om_nx t L st' h
      | none => none)
    | _ => none)
  | .getfield i => (match st, om_fl (om_ow mi) i with
    | .inr (.inl a) :: st', some (ci, k) => (match h.1[a]? with
      | some (c, _, vs) => if c = ci ∧ c < 10 then (match vs[k]? with
        | some v => om_nx (pc + 3) L (v :: st') h
        | none => none) else none
      | none => none)
    | _, _ => none)
  | .putfield i => (match st, om_fl (om_ow mi) i with
    | v :: .inr (.inl a) :: st', some (ci, k) => (match h.1[a]? with
      | some (c, n, vs) => if c = ci ∧ c < 10 ∧ k < vs.length ∧ om_fit mi ci k v = true then om_nx (pc + 3) L st' (h.1.set a (c, n, vs.set k v), h.2) else none
      | none => none)
    | _, _ => none)
  | .iaload => (match st with
    | .inl z :: .inr (.inr 2) :: st' => if 0 ≤ z ∧ z < sc.1 then om_nx (pc + 1) L (.inl (sc.2 z) :: st') h else none
    | _ => om_xld (pc + 1) L st h 20)
  | .caload => om_xld (pc + 1) L st h 21
  | .baload => om_xld (pc + 1) L st h 22
  | .iastore => om_xst (pc + 1) L st h 20 (fun _ => true)
  | .castore => om_xst (pc + 1) L st h 21 (fun x => decide (0 ≤ x) && decide (x ≤ 65535))
  | .bastore => om_xst (pc + 1) L st h 22 (fun x => decide (x = 0) || decide (x = 1))
  | .aaload => (match st with
    | .inl z :: .inr (.inl a) :: st' => (match h.1[a]? with
      | some (k, n, vs) => if k = 23 ∧ 0 ≤ z ∧ z < n then (match vs[z.toNat]? with
        | some (.inr (.inl r)) => om_nx (pc + 1) L (.inr (.inl r) :: st') h
        | _ => none) else none
      | none => none)
    | _ => none)
  | .aastore => (match st with
    | .inr (.inl r) :: .inl z :: .inr (.inl a) :: st' => (match h.1[a]?, h.1[r]? with
      | some (k, n, vs), some (kr, _, _) => if k = 23 ∧ 0 ≤ z ∧ z < n ∧ z.toNat < vs.length ∧ kr = 5 then om_nx (pc + 1) L st' (h.1.set a (k, n, vs.set z.toNat (.inr (.inl r))), h.2) else none
      | _, _ => none)
    | _ => none)
  | .arraylength => (match st with
    | .inr (.inl a) :: st' => (match h.1[a]? with
      | some (k, n, _) => if 20 ≤ k ∧ k ≤ 23 ∧ om_Z n then om_nx (pc + 1) L (.inl n :: st') h else none
      | none => none)
    | .inr (.inr 2) :: st' => if om_Z sc.1 then om_nx (pc + 1) L (.inl sc.1 :: st') h else none
    | _ => none)
  | .new i => (match om_ck (om_ow mi) i with
    | some ci => if ci < 10 then om_nx (pc + 3) L (.inr (.inl h.1.length) :: st) (h.1 ++ [(ci, om_fN ci, om_def ci)], h.2) else none
    | none => none)
  | .newarray t => (match st, t with
    | .inl z :: st', .int => if 0 ≤ z ∧ z ≤ 100000 then om_nx (pc + 2) L (.inr (.inl h.1.length) :: st') (h.1 ++ [(20, z.toNat, [])], h.2) else none
    | .inl z :: st', .char => if 0 ≤ z ∧ z ≤ 100000 then om_nx (pc + 2) L (.inr (.inl h.1.length) :: st') (h.1 ++ [(21, z.toNat, [])], h.2) else none
    | .inl z :: st', .boolean => if 0 ≤ z ∧ z ≤ 100000 then om_nx (pc + 2) L (.inr (.inl h.1.length) :: st') (h.1 ++ [(22, z.toNat, [])], h.2) else none
    | _, _ => none)
  | .anewarray i => (match st, om_ck (om_ow mi) i with
    | .inl z :: st', some 5 => if 0 ≤ z ∧ z ≤ 100000 then om_nx (pc + 3) L (.inr (.inl h.1.length) :: st') (h.1 ++ [(23, z.toNat, List.replicate z.toNat om_nu)], h.2) else none
    | _, _ => none)
  | .invokevirtual i => (match om_mk (om_ow mi) i with
    | some (0, ci) => if om_rcv st h (om_np ci) (om_ow ci) = true then om_cal (pc + 3) L st ci (om_np ci + 1) else none
    | _ => none)
  | .invokestatic i => (match om_mk (om_ow mi) i with
    | some (1, ci) => om_cal (pc + 3) L st ci (om_np ci)
    | some (6, _) => (match st with
      | .inl b :: .inl a :: st' => if st'.length ≤ 8 then om_nx (pc + 3) L (.inl (if a ≤ b then a else b) :: st') h else none
      | _ => none)
    | some (4, _) => (match st with
      | .inl n :: .inl dp :: .inr (.inl a) :: .inl sp :: .inr (.inl a0) :: st' => (match h.1[a]?, h.1[a0]? with
        | some (k, m, _), some (k0, m0, _) => if k = 20 ∧ k0 = 20 ∧ 0 ≤ sp ∧ 0 ≤ dp ∧ 0 ≤ n ∧ sp + n ≤ m0 ∧ dp + n ≤ m ∧ st'.length ≤ 8 then om_nx (pc + 3) L st' (h.1, om_u h.2 a (om_cpy (h.2 a0) (h.2 a) sp dp n)) else none
        | _, _ => none)
      | _ => none)
    | _ => none)
  | .invokespecial i => (match om_mk (om_ow mi) i with
    | some (2, ci) => if om_rcv st h (om_np ci) (om_ow ci) = true then om_cal (pc + 3) L st ci (om_np ci + 1) else none
    | some (3, ci) => if om_rcv st h (om_np ci) (om_ow ci) = true then om_cal (pc + 3) L st ci (om_np ci + 1) else none
    | some (5, _) => (match st with
      | .inr (.inl a) :: st' => if st'.length ≤ 8 then om_nx (pc + 3) L st' h else none
      | _ => none)
    | _ => none)
  | .ireturn => (match st with
    | [.inl z] => if om_rok mi (some (.inl z)) = true then some (.inl (some (.inl z), h)) else none
    | _ => none)
  | .areturn => (match st with
    | [.inr (.inl a)] => if om_rok mi (some (.inr (.inl a))) = true then some (.inl (some (.inr (.inl a)), h)) else none
    | _ => none)
  | .return_ => (match st with
    | [] => if om_rok mi none = true then some (.inl (none, h)) else none
    | _ => none)
  | _ => none
def om_step (sc : Int × (Int → Int)) (mi pc : Nat) (L st : List om_V) (h : om_H) : Option om_S := match om_cd mi pc with
  | some (ins, len) => if om_lok ins len = true then om_ex sc mi pc ins L st h else none
  | none => none
/-- a callee's locals -/
def om_loc (mi : Nat) (as : List om_V) : List om_V := as ++ List.replicate (om_ml mi - as.length) om_un
def om_run (sc : Int × (Int → Int)) : Nat → Nat → Nat → Nat → List om_V → List om_V → om_H → Option (Option om_V × om_H)
  | _, 0, _, _, _, _, _ => none
  | d, f + 1, mi, pc, L, st, h => match om_step sc mi pc L st h with
    | none => none
    | some (.inl r) => some r
    | some (.inr (.inl (pc', L', st', h'))) => om_run sc d f mi pc' L' st' h'
    | some (.inr (.inr (ci, as, pc', L', st'))) => match d with
      | 0 => none
      | d' + 1 => match om_run sc d' f ci 0 (om_loc ci as) [] h with
        | none => none
        | some (v, h') => om_run sc (d' + 1) f mi pc' L' (v.toList ++ st') h'
def om_R (sc : Int × (Int → Int)) (d mi pc : Nat) (L st : List om_V) (h : om_H) (Q : Option om_V → om_H → Prop) : Prop :=
  ∃ f v h', om_run sc d f mi pc L st h = some (v, h') ∧ Q v h'
theorem om_run_s {sc : Int × (Int → Int)} : ∀ {f d mi pc : Nat} {L st : List om_V} {h : om_H} {r : Option om_V × om_H}, om_run sc d f mi pc L st h = some r → om_run sc d (f + 1) mi pc L st h = some r
  | 0, d, mi, pc, L, st, h, r, e => by simp [om_run] at e
  | f + 1, d, mi, pc, L, st, h, r, e => by
    rw [om_run] at e ⊢
    cases hs : om_step sc mi pc L st h with
    | none => rw [hs] at e; cases e
    | some q =>
      rw [hs] at e
      rcases q with q | ⟨pc', L', st', h'⟩ | ⟨ci, as, pc', L', st'⟩
      · exact e
      · exact om_run_s e
      · cases d with
        | zero => cases e
        | succ d =>
          dsimp only at e ⊢
          cases hc : om_run sc d f ci 0 (om_loc ci as) [] h with
          | none => rw [hc] at e; cases e
          | some w =>
            rw [hc] at e
            rw [om_run_s hc]
            exact om_run_s e
theorem om_run_le {sc : Int × (Int → Int)} {f g d mi pc : Nat} {L st : List om_V} {h : om_H} {r : Option om_V × om_H} (hfg : f ≤ g) (e : om_run sc d f mi pc L st h = some r) : om_run sc d g mi pc L st h = some r := by
  induction hfg with
  | refl => exact e
  | step _ ih => exact om_run_s ih
theorem om_R_nx {sc : Int × (Int → Int)} {d mi pc : Nat} {L st : List om_V} {h : om_H} {Q : Option om_V → om_H → Prop} {pc' : Nat} {L' st' : List om_V} {h' : om_H} (e : om_step sc mi pc L st h = om_nx pc' L' st' h') : om_R sc d mi pc L st h Q = om_R sc d mi pc' L' st' h' Q := by
  apply propext
  constructor
  · rintro ⟨f, v, w, hr, hq⟩
    cases f with
    | zero => simp [om_run] at hr
    | succ f =>
      rw [om_run, e] at hr
      exact ⟨f, v, w, hr, hq⟩
  · rintro ⟨f, v, w, hr, hq⟩
    refine ⟨f + 1, v, w, ?_, hq⟩
    rw [om_run, e]
    exact hr
theorem om_R_no {sc : Int × (Int → Int)} {d mi pc : Nat} {L st : List om_V} {h : om_H} {Q : Option om_V → om_H → Prop} (e : om_step sc mi pc L st h = none) : om_R sc d mi pc L st h Q = False := by
  apply propext
  constructor
  · rintro ⟨f, v, w, hr, hq⟩
    cases f with
    | zero => simp [om_run] at hr
    | succ f =>
      rw [om_run, e] at hr
      cases hr
  · exact False.elim
theorem om_R_if {sc : Int × (Int → Int)} {d mi pc : Nat} {L st : List om_V} {h : om_H} {Q : Option om_V → om_H → Prop} {pc' : Nat} {L' st' : List om_V} {h' : om_H} {c : Prop} [Decidable c] (e : om_step sc mi pc L st h = if c then om_nx pc' L' st' h' else none) : om_R sc d mi pc L st h Q = (c ∧ om_R sc d mi pc' L' st' h' Q) := by
  by_cases hc : c
  · rw [if_pos hc] at e
    rw [om_R_nx e]
    simp [hc]
  · rw [if_neg hc] at e
    rw [om_R_no e]
    simp [hc]
theorem om_R_br {sc : Int × (Int → Int)} {d mi pc : Nat} {L st : List om_V} {h : om_H} {Q : Option om_V → om_H → Prop} {p1 p2 : Nat} {L' st' : List om_V} {h' : om_H} {c : Prop} [Decidable c] (e : om_step sc mi pc L st h = om_nx (if decide c then p1 else p2) L' st' h') : om_R sc d mi pc L st h Q = if c then om_R sc d mi p1 L' st' h' Q else om_R sc d mi p2 L' st' h' Q := by
  by_cases hc : c
  · rw [if_pos hc]
    rw [decide_eq_true hc] at e
    exact om_R_nx e
  · rw [if_neg hc]
    rw [decide_eq_false hc] at e
    exact om_R_nx e
theorem om_R_rt {sc : Int × (Int → Int)} {d mi pc : Nat} {L st : List om_V} {h : om_H} {Q : Option om_V → om_H → Prop} {v : Option om_V} {h' : om_H} {c : Bool} (e : om_step sc mi pc L st h = if c = true then some (.inl (v, h')) else none) : om_R sc d mi pc L st h Q = (c = true ∧ Q v h') := by
  cases hc : c
  · subst hc
    rw [om_R_no e]
    simp
  · subst hc
    rw [if_pos rfl] at e
    apply propext
    constructor
    · rintro ⟨f, v', w, hr, hq⟩
      cases f with
      | zero => simp [om_run] at hr
      | succ f =>
        rw [om_run, e] at hr
        cases hr
        exact ⟨rfl, hq⟩
    · rintro ⟨-, hq⟩
      exact ⟨1, v, h', by rw [om_run, e], hq⟩
theorem om_R_ca {sc : Int × (Int → Int)} {d mi pc : Nat} {L st : List om_V} {h : om_H} {Q : Option om_V → om_H → Prop} {ci : Nat} {as : List om_V} {pc' : Nat} {L' st' : List om_V} (e : om_step sc mi pc L st h = some (.inr (.inr (ci, as, pc', L', st')))) : om_R sc (d + 1) mi pc L st h Q = om_R sc d ci 0 (om_loc ci as) [] h (fun v h' => om_R sc (d + 1) mi pc' L' (v.toList ++ st') h' Q) := by
  apply propext
  constructor
  · rintro ⟨f, v, w, hr, hq⟩
    cases f with
    | zero => simp [om_run] at hr
    | succ f =>
      rw [om_run, e] at hr
      dsimp only at hr
      cases hc : om_run sc d f ci 0 (om_loc ci as) [] h with
      | none => rw [hc] at hr; cases hr
      | some x =>
        rw [hc] at hr
        exact ⟨f, x.1, x.2, hc, f, v, w, hr, hq⟩
  · rintro ⟨f, v, w, hr, g, v', w', hr', hq⟩
    refine ⟨max f g + 1, v', w', ?_, hq⟩
    rw [om_run, e]
    dsimp only
    rw [om_run_le (Nat.le_max_left f g) hr]
    exact om_run_le (Nat.le_max_right f g) hr'
theorem om_R_mono {sc : Int × (Int → Int)} {d mi pc : Nat} {L st : List om_V} {h : om_H} {Q Q' : Option om_V → om_H → Prop} (hr : om_R sc d mi pc L st h Q) (hq : ∀ v w, Q v w → Q' v w) : om_R sc d mi pc L st h Q' := by
  obtain ⟨f, v, w, e, q⟩ := hr
  exact ⟨f, v, w, e, hq v w q⟩
