/-! new cells, arraycopy, min, Object's constructor -/
section om_nw
variable {p : Program} {l : Launch} {e : Env} {R : Room} {s : State} {m : MethodId} {args : Array Value} {below : List Frame} {meth : Method} {c : Code} {Q : State → Prop} {mi : Nat} {D : va_G} {dA : Nat → ClassId} {b bs : Nat} {sc : Int × (Int → Int)} {ad0 : List Nat} {cells slots pc : Nat} {L st : List om_V} {h : om_H}
theorem om_hA (C : om_Cx p s m args meth c mi D dA b bs sc) : ∀ q : Nat, s.heap.size ≤ q → (fun q => bs ≤ q) q := fun q hq => Nat.le_trans C.2.2.2.2.2.2.2.2.2.2.2.1 hq
/-- what a new cell leaves -/
theorem om_push {ad : List Nat} {H1 : Heap} {locs1 : List Loc} {ls : Array Slot} {q : Nat} {cel : Nat × Nat × List om_V} {E : va_E} (pc' cells' slots' : Nat) (h0 : ad0 <+: ad) (hlen : ad.length = h.1.length) (hw : om_wf h) (hc : om_okc h.1.length cel) (hE : E = om_ce (ad ++ [q]) b dA cel (h.2 h.1.length)) (hP : va_P D om_cl (om_ws ad b dA h ++ [(q, E)]) H1) (hD : va_D (fun q => bs ≤ q) (om_ws ad b dA h ++ [(q, E)])) (hS : va_S (fun q => bs ≤ q) s.heap H1 locs1) (hl : lv_has ls (om_ml mi) (om_lv ad b L)) (hn : L.length = om_ml mi) (hL : ∀ v ∈ L, v = om_un ∨ om_ok h.1.length v) (hst : ∀ v ∈ st, om_ok h.1.length v) (kk : (om_Gd p l e R s m args below meth c Q mi D dA b bs ad0 (pc') (L) (.inr (.inl h.1.length) :: st) ((h.1 ++ [cel], h.2)) (cells') (slots'))) : W p l e R s m args below meth c H1 locs1 cells' slots' Q (F0 m pc' ls (.ref q :: st.map (om_tr ad b))) := by
  subst hE
  rw [om_ws_push q cel hlen hw] at hP hD
  have hpre : ad <+: ad ++ [q] := ⟨[q], rfl⟩
  have hle : h.1.length ≤ (h.1 ++ [cel]).length := by simp
  have k := kk (ad ++ [q]) H1 locs1 ls (h0.trans hpre) ⟨by simp [hlen], om_wf_push hw hc, hP, hD⟩ hS (om_lv_pre hpre (by rw [hlen]; exact hL) hl) hn (fun v hv => (hL v hv).imp id (om_ok_le hle)) (List.forall_mem_cons.mpr ⟨show h.1.length < (h.1 ++ [cel]).length by simp, fun v hv => om_ok_le hle (hst v hv)⟩)
  have e1 : (ad ++ [q]).getD h.1.length 0 = q := by simp [List.getD, ← hlen]
  rw [List.map_cons, om_map_pre hpre (by rw [hlen]; exact hst)] at k
  have e2 : om_tr (ad ++ [q]) b (.inr (.inl h.1.length)) = .ref q := by
    show Value.ref _ = _
    rw [e1]
  rw [e2] at k
  exact k
theorem om_def_ok (ci n : Nat) : ∀ v ∈ om_def ci, om_ok n v := by
  intro v hv
  obtain ⟨k, -, rfl⟩ := List.mem_map.mp hv
  split
  · exact Or.inl rfl
  · exact ⟨by decide, by decide⟩
theorem om_def_tr (ad : List Nat) (b ci : Nat) : (om_def ci).map (om_tr ad b) = (om_def ci).map (om_tr [] 0) := by
  apply List.map_congr_left
  intro v hv
  obtain ⟨k, -, rfl⟩ := List.mem_map.mp hv
  split <;> rfl
theorem om_g_new (C : om_Cx p s m args meth c mi D dA b bs sc) {i ci : Nat} (hd : decode (om_by mi) pc = .ok (.new i, 3)) (hck : om_ck (om_ow mi) i = some ci) (hci : ci < 10) (hcells : cells + 1 ≤ R.cells) (hslots : slots + om_fN ci ≤ R.slots) (kk : (om_Gd p l e R s m args below meth c Q mi D dA b bs ad0 (pc + 3) (L) (.inr (.inl h.1.length) :: st) ((h.1 ++ [(ci, om_fN ci, om_def ci)], h.2)) (cells + 1) (slots + om_fN ci))) : (om_Gd p l e R s m args below meth c Q mi D dA b bs ad0 (pc) (L) (st) (h) (cells) (slots)) := by
  intro ad H locs ls h0 hRe hS hl hn hL hst
  have hA := om_hA C
  obtain ⟨hx, hb, hml, hown, hts, hr, hlk, hin, hKx⟩ := C
  have hdk := List.all_eq_true.mp om_dok ci (List.mem_range.mpr hci)
  rw [Bool.and_eq_true] at hdk
  refine va_new (ci := ci) (fs := (om_def ci).map (om_tr [] 0)) (C := om_cn ci) (T := om_fT ci) (N := om_fN ci) hx hb hts (om_lays hci).1 (om_ty ci) (om_ty_ok hci) hown (hts _ (om_ck_ok hck)) (hts _ (om_lays hci).2.1) (hts _ (om_lays hci).2.2) hKx.1 hRe.2.2.1 hRe.2.2.2 hS hA (om_cl_at hci) (fun j hj => of_decide_eq_true (List.all_eq_true.mp hdk.2 j (List.mem_range.mpr hj))) hcells hslots hd (fun q H1 hP1 hD1 hS1 => ?_)
  refine om_push (cel := (ci, om_fN ci, om_def ci)) (pc + 3) (cells + 1) (slots + om_fN ci) h0 hRe.1 hRe.2.1 (om_def_ok ci _) ?_ hP1 hD1 hS1 hl hn hL hst kk
  rw [om_ce_obj (show (ci, om_fN ci, om_def ci).1 < 10 from hci)]
  show (Sum.inr (ci, _) : va_E) = Sum.inr (ci, (om_def ci).map (om_tr (ad ++ [q]) b))
  rw [om_def_tr (ad ++ [q]) b ci]
theorem om_K_arr {tys : List (ClassId × FieldType)} {ty : FieldType} {cA cB : ClassId} {i : Nat} (hty : va_RA s cB ty → va_RA s cA ty → cB = cA) (hK : va_K D om_cl (tys ++ [(cA, ty)]) s) (hi : tys[i]? = some (cB, ty)) : cB = cA := by
  have h1 := hK.2 tys.length (cA, ty) (by simp)
  have h2 := hK.2 i (cB, ty) (by rw [List.getElem?_append_left (List.getElem?_eq_some_iff.mp hi).1]; exact hi)
  exact hty h2.2 h1.2
theorem om_z0 {h : om_H} (hw : om_wf h) : (fun k : Nat => Int32.ofInt (h.2 h.1.length k)) = fun _ => 0 := by
  funext k
  rw [hw.2.2 _ (Nat.le_refl _)]
  rfl
theorem om_g_nai (C : om_Cx p s m args meth c mi D dA b bs sc) {z : Int} (hd : decode (om_by mi) pc = .ok (.newarray .int, 2)) (hz : 0 ≤ z ∧ z ≤ 100000) (hcells : cells + 1 ≤ R.cells) (hslots : slots + z.toNat ≤ R.slots) (kk : (om_Gd p l e R s m args below meth c Q mi D dA b bs ad0 (pc + 2) (L) (.inr (.inl h.1.length) :: st) ((h.1 ++ [(20, z.toNat, [])], h.2)) (cells + 1) (slots + z.toNat))) : (om_Gd p l e R s m args below meth c Q mi D dA b bs ad0 (pc) (L) (.inl z :: st) (h) (cells) (slots)) := by
  intro ad H locs ls h0 hRe hS hl hn hL hst
  have hA := om_hA C
  obtain ⟨hx, hb, hml, hown, hts, hr, hlk, hin, hKx⟩ := C
  obtain ⟨zz, hst⟩ := List.forall_mem_cons.mp hst
  refine va_newa (atype := .int) (ty := .int) (N' := z.toNat) (a0 := (z.toNat, .inl (fun _ => 0))) hx hb (hts _ (by exact om_wgi (i := 129) (by decide +kernel))) rfl hKx.1 hRe.2.2.1 hRe.2.2.2 hS hA (fun cA => rfl) (by rw [show (0 : Int32) = Int32.ofInt 0 from rfl, om_lt zz (by decide)]; omega) (om_cn' zz) (by show z.toNat * 4 ≤ _; omega) hcells hslots hd (fun q cA H1 hK1 hP1 hD1 hS1 => ?_)
  have hcA : dA 20 = cA := om_K_arr (ty := .int) (i := 0) (fun h1 h2 => by
    have h1 : s.vm.findClass ("[" ++ FieldType.toString .int) = some (dA 20) := h1
    have h2 : s.vm.findClass ("[" ++ FieldType.toString .int) = some cA := h2
    exact Option.some.inj (h1.symm.trans h2)) hK1 rfl
  subst hcA
  refine om_push (cel := (20, z.toNat, [])) (pc + 2) (cells + 1) (slots + z.toNat) h0 hRe.1 hRe.2.1 (fun v hv => by cases hv) ?_ hP1 hD1 hS1 hl hn hL hst kk
  rw [om_ce_arr (show 20 ≤ (20, z.toNat, ([] : List om_V)).1 from Nat.le_refl _) (show (20 : Nat) ≠ 23 by decide), om_z0 hRe.2.1]
theorem om_g_nac (C : om_Cx p s m args meth c mi D dA b bs sc) {z : Int} (hd : decode (om_by mi) pc = .ok (.newarray .char, 2)) (hz : 0 ≤ z ∧ z ≤ 100000) (hcells : cells + 1 ≤ R.cells) (hslots : slots + z.toNat ≤ R.slots) (kk : (om_Gd p l e R s m args below meth c Q mi D dA b bs ad0 (pc + 2) (L) (.inr (.inl h.1.length) :: st) ((h.1 ++ [(21, z.toNat, [])], h.2)) (cells + 1) (slots + z.toNat))) : (om_Gd p l e R s m args below meth c Q mi D dA b bs ad0 (pc) (L) (.inl z :: st) (h) (cells) (slots)) := by
  intro ad H locs ls h0 hRe hS hl hn hL hst
  have hA := om_hA C
  obtain ⟨hx, hb, hml, hown, hts, hr, hlk, hin, hKx⟩ := C
  obtain ⟨zz, hst⟩ := List.forall_mem_cons.mp hst
  refine va_newa (atype := .char) (ty := .char) (N' := z.toNat) (a0 := (z.toNat, .inl (fun _ => 0))) hx hb (hts _ (by exact om_wgi (i := 112) (by decide +kernel))) rfl hKx.1 hRe.2.2.1 hRe.2.2.2 hS hA (fun cA => rfl) (by rw [show (0 : Int32) = Int32.ofInt 0 from rfl, om_lt zz (by decide)]; omega) (om_cn' zz) (by show z.toNat * 2 ≤ _; omega) hcells hslots hd (fun q cA H1 hK1 hP1 hD1 hS1 => ?_)
  have hcA : dA 21 = cA := om_K_arr (ty := .char) (i := 1) (fun h1 h2 => by
    have h1 : s.vm.findClass ("[" ++ FieldType.toString .char) = some (dA 21) := h1
    have h2 : s.vm.findClass ("[" ++ FieldType.toString .char) = some cA := h2
    exact Option.some.inj (h1.symm.trans h2)) hK1 rfl
  subst hcA
  refine om_push (cel := (21, z.toNat, [])) (pc + 2) (cells + 1) (slots + z.toNat) h0 hRe.1 hRe.2.1 (fun v hv => by cases hv) ?_ hP1 hD1 hS1 hl hn hL hst kk
  rw [om_ce_arr (show 20 ≤ (21, z.toNat, ([] : List om_V)).1 from Nat.le_succ _) (show (21 : Nat) ≠ 23 by decide), om_z0 hRe.2.1]
theorem om_g_nab (C : om_Cx p s m args meth c mi D dA b bs sc) {z : Int} (hd : decode (om_by mi) pc = .ok (.newarray .boolean, 2)) (hz : 0 ≤ z ∧ z ≤ 100000) (hcells : cells + 1 ≤ R.cells) (hslots : slots + z.toNat ≤ R.slots) (kk : (om_Gd p l e R s m args below meth c Q mi D dA b bs ad0 (pc + 2) (L) (.inr (.inl h.1.length) :: st) ((h.1 ++ [(22, z.toNat, [])], h.2)) (cells + 1) (slots + z.toNat))) : (om_Gd p l e R s m args below meth c Q mi D dA b bs ad0 (pc) (L) (.inl z :: st) (h) (cells) (slots)) := by
  intro ad H locs ls h0 hRe hS hl hn hL hst
  have hA := om_hA C
  obtain ⟨hx, hb, hml, hown, hts, hr, hlk, hin, hKx⟩ := C
  obtain ⟨zz, hst⟩ := List.forall_mem_cons.mp hst
  refine va_newa (atype := .boolean) (ty := .boolean) (N' := z.toNat) (a0 := (z.toNat, .inl (fun _ => 0))) hx hb (hts _ (by exact om_wgi (i := 764) (by decide +kernel))) rfl hKx.1 hRe.2.2.1 hRe.2.2.2 hS hA (fun cA => rfl) (by rw [show (0 : Int32) = Int32.ofInt 0 from rfl, om_lt zz (by decide)]; omega) (om_cn' zz) (by show z.toNat * 1 ≤ _; omega) hcells hslots hd (fun q cA H1 hK1 hP1 hD1 hS1 => ?_)
  have hcA : dA 22 = cA := om_K_arr (ty := .boolean) (i := 2) (fun h1 h2 => by
    have h1 : s.vm.findClass ("[" ++ FieldType.toString .boolean) = some (dA 22) := h1
    have h2 : s.vm.findClass ("[" ++ FieldType.toString .boolean) = some cA := h2
    exact Option.some.inj (h1.symm.trans h2)) hK1 rfl
  subst hcA
  refine om_push (cel := (22, z.toNat, [])) (pc + 2) (cells + 1) (slots + z.toNat) h0 hRe.1 hRe.2.1 (fun v hv => by cases hv) ?_ hP1 hD1 hS1 hl hn hL hst kk
  rw [om_ce_arr (show 20 ≤ (22, z.toNat, ([] : List om_V)).1 from Nat.le_of_ble_eq_true rfl) (show (22 : Nat) ≠ 23 by decide), om_z0 hRe.2.1]
theorem om_g_naq (C : om_Cx p s m args meth c mi D dA b bs sc) {i : Nat} {z : Int} (hd : decode (om_by mi) pc = .ok (.anewarray i, 3)) (hck : om_ck (om_ow mi) i = some 5) (hz : 0 ≤ z ∧ z ≤ 100000) (hcells : cells + 1 ≤ R.cells) (hslots : slots + z.toNat ≤ R.slots) (kk : (om_Gd p l e R s m args below meth c Q mi D dA b bs ad0 (pc + 3) (L) (.inr (.inl h.1.length) :: st) ((h.1 ++ [(23, z.toNat, List.replicate z.toNat om_nu)], h.2)) (cells + 1) (slots + z.toNat))) : (om_Gd p l e R s m args below meth c Q mi D dA b bs ad0 (pc) (L) (.inl z :: st) (h) (cells) (slots)) := by
  intro ad H locs ls h0 hRe hS hl hn hL hst
  have hA := om_hA C
  obtain ⟨hx, hb, hml, hown, hts, hr, hlk, hin, hKx⟩ := C
  obtain ⟨zz, hst⟩ := List.forall_mem_cons.mp hst
  refine va_newq (C := "OreSolver$Operator") (N' := z.toNat) hx hb hown (hts _ (om_ck_ok hck)) hKx.2.2.2.2.1 hKx.1 hRe.2.2.1 hRe.2.2.2 hS hA (by rw [show (0 : Int32) = Int32.ofInt 0 from rfl, om_lt zz (by decide)]; omega) (om_cn' zz) (by omega) hcells hslots hd (fun q cA H1 hK1 hP1 hD1 hS1 => ?_)
  have hcA : dA 23 = cA := om_K_arr (i := 3) (fun h1 h2 => by
    obtain ⟨_, _, _, _, _, h1⟩ := h1
    obtain ⟨_, _, _, _, _, h2⟩ := h2
    exact Option.some.inj (h1.symm.trans h2)) hK1 rfl
  subst hcA
  refine om_push (cel := (23, z.toNat, List.replicate z.toNat om_nu)) (pc + 3) (cells + 1) (slots + z.toNat) h0 hRe.1 hRe.2.1 (fun v hv => by rw [List.eq_of_mem_replicate hv]; exact Or.inl rfl) ?_ hP1 hD1 hS1 hl hn hL hst kk
  rw [om_ce_ref]
  have e1 : (fun k => om_el (ad ++ [q]) ((List.replicate z.toNat om_nu).getD k om_nu)) = fun _ => none := by
    funext k
    have : (List.replicate z.toNat om_nu).getD k om_nu = om_nu := by
      by_cases hk : k < z.toNat
      · simp [List.getD, hk]
      · simp [List.getD, hk]
    rw [this]
    rfl
  rw [e1]
theorem om_g_oin (C : om_Cx p s m args meth c mi D dA b bs sc) {i a x : Nat} (hd : decode (om_by mi) pc = .ok (.invokespecial i, 3)) (hm : om_mk (om_ow mi) i = some (5, x)) (hst8 : st.length ≤ 8) (hfr : 1 ≤ R.frames) (hlo : 40 ≤ R.locals) (kk : (om_Gd p l e R s m args below meth c Q mi D dA b bs ad0 (pc + 3) (L) (st) (h) (cells) (slots))) : (om_Gd p l e R s m args below meth c Q mi D dA b bs ad0 (pc) (L) (.inr (.inl a) :: st) (h) (cells) (slots)) := by
  intro ad H locs ls h0 hRe hS hl hn hL hst
  obtain ⟨hx, hb, hml, hown, hts, hr, hlk, hin, hKx⟩ := C
  have hlink : Cond.methodLink (om_cn (om_ow mi)) i objectInit ∈ om_wg := by
    unfold om_mk at hm
    cases hf : om_mls.find? (fun e => e.1 == om_ow mi && e.2.1 == i) with
    | none => rw [hf] at hm; cases hm
    | some e =>
      rw [hf] at hm
      have hmm := List.mem_of_find?_eq_some hf
      have hp := List.find?_some hf
      have h3 := List.all_eq_true.mp om_mok e hmm
      obtain ⟨a1, a2, a3, a4, a5⟩ := e
      simp only [Bool.and_eq_true, beq_iff_eq] at hp
      obtain ⟨e1, rfl⟩ := hp
      simp only [Option.map_some, Option.some.injEq, Prod.mk.injEq] at hm
      obtain ⟨rfl, rfl⟩ := hm
      rw [← e1]
      exact om_wgi h3
  refine W.objInit (g := F0 m pc ls ((Sum.inr (Sum.inl a) :: st).map (om_tr ad b))) (a := ad.getD a 0) (rest := st.map (om_tr ad b)) hx hb hown (hts _ hlink) (hts _ (om_wgi (i := 93) (by decide +kernel))) (hts _ (om_wgi (i := 94) (by decide +kernel))) rfl (by rw [hml]; exact hl.1) rfl hd hfr (by rw [om_cats]; show 2 * 0 + _ + _ ≤ _; omega) ?_
  exact kk ad H locs ls h0 hRe hS hl hn hL (List.forall_mem_cons.mp hst).2
theorem om_mls_at {own i kd x : Nat} (hm : om_mk own i = some (kd, x)) : ∃ y, (own, i, kd, x, y) ∈ om_mls := by
  unfold om_mk at hm
  cases hf : om_mls.find? (fun e => e.1 == own && e.2.1 == i) with
  | none => rw [hf] at hm; cases hm
  | some e =>
    rw [hf] at hm
    have hmm := List.mem_of_find?_eq_some hf
    have hp := List.find?_some hf
    obtain ⟨a1, a2, a3, a4, a5⟩ := e
    simp only [Bool.and_eq_true, beq_iff_eq] at hp
    obtain ⟨rfl, rfl⟩ := hp
    simp only [Option.map_some, Option.some.injEq, Prod.mk.injEq] at hm
    obtain ⟨rfl, rfl⟩ := hm
    exact ⟨a5, hmm⟩
theorem om_g_min (C : om_Cx p s m args meth c mi D dA b bs sc) {i w : Nat} {x y : Int} (hd : decode (om_by mi) pc = .ok (.invokestatic i, 3)) (hm : om_mk (om_ow mi) i = some (6, w)) (hst8 : st.length ≤ 8) (hfr : 1 ≤ R.frames) (hlo : 40 ≤ R.locals) (hc : cells ≤ R.cells) (hs : slots ≤ R.slots) (kk : (om_Gd p l e R s m args below meth c Q mi D dA b bs ad0 (pc + 3) (L) (.inl (if x ≤ y then x else y) :: st) (h) (cells) (slots))) : (om_Gd p l e R s m args below meth c Q mi D dA b bs ad0 (pc) (L) (.inl y :: .inl x :: st) (h) (cells) (slots)) := by
  intro ad H locs ls h0 hRe hS hl hn hL hst
  obtain ⟨hx, hb, hml, hown, hts, hr, hlk, hin, hKx⟩ := C
  obtain ⟨yy, hmm⟩ := om_mls_at hm
  have hlink := om_wgi (List.all_eq_true.mp om_mok _ hmm)
  obtain ⟨zy, hst⟩ := List.forall_mem_cons.mp hst
  obtain ⟨zx, hst⟩ := List.forall_mem_cons.mp hst
  refine va_mmin (x := Int32.ofInt x) (y := Int32.ofInt y) hx hb (by rw [hml]; exact hl.1.symm) hown (hts _ hlink) (hts _ (om_wgi (i := 406) (by decide +kernel))) (hts _ (om_wgi (i := 85) (by decide +kernel))) (hts _ (om_wgi (i := 407) (by decide +kernel))) hfr (by rw [om_cats]; omega) hc hs hd ?_
  have e1 : (if Int32.ofInt y < Int32.ofInt x then Int32.ofInt y else Int32.ofInt x) = Int32.ofInt (if x ≤ y then x else y) := by
    by_cases hq : x ≤ y
    · rw [if_pos hq, if_neg (by rw [om_lt zy zx]; omega)]
    · rw [if_neg hq, if_pos (by rw [om_lt zy zx]; omega)]
  rw [e1]
  exact kk ad H locs ls h0 hRe hS hl hn hL (List.forall_mem_cons.mpr ⟨by split <;> assumption, hst⟩)
theorem om_g_acp (C : om_Cx p s m args meth c mi D dA b bs sc) {i w a a0 n n0 : Nat} {k sp dp : Int} {vs vs0 : List om_V} (hd : decode (om_by mi) pc = .ok (.invokestatic i, 3)) (hm : om_mk (om_ow mi) i = some (4, w)) (ha : h.1[a]? = some (20, n, vs)) (ha0 : h.1[a0]? = some (20, n0, vs0)) (hq : 0 ≤ sp ∧ 0 ≤ dp ∧ 0 ≤ k ∧ sp + k ≤ n0 ∧ dp + k ≤ n) (hst8 : st.length ≤ 8) (hfr : 1 ≤ R.frames) (hlo : 40 ≤ R.locals) (kk : (om_Gd p l e R s m args below meth c Q mi D dA b bs ad0 (pc + 3) (L) (st) ((h.1, om_u h.2 a (om_cpy (h.2 a0) (h.2 a) sp dp k))) (cells) (slots))) : (om_Gd p l e R s m args below meth c Q mi D dA b bs ad0 (pc) (L) (.inl k :: .inl dp :: .inr (.inl a) :: .inl sp :: .inr (.inl a0) :: st) (h) (cells) (slots)) := by
  intro ad H locs ls h0 hRe hS hl hn hL hst
  obtain ⟨hx, hb, hml, hown, hts, hr, hlk, hin, hKx⟩ := C
  obtain ⟨yy, hmm⟩ := om_mls_at hm
  have hlink := om_wgi (List.all_eq_true.mp om_mok _ hmm)
  obtain ⟨zk, hst⟩ := List.forall_mem_cons.mp hst
  obtain ⟨zd, hst⟩ := List.forall_mem_cons.mp hst
  have hst := (List.forall_mem_cons.mp hst).2
  obtain ⟨zs, hst⟩ := List.forall_mem_cons.mp hst
  have hst := (List.forall_mem_cons.mp hst).2
  change om_Z k at zk
  change om_Z dp at zd
  change om_Z sp at zs
  have hnf : nativeFrameWords "java/lang/System" "arraycopy" 5 ≤ 20 := by decide +kernel
  have zz : ∀ {z : Int}, om_Z z → 0 ≤ z → ¬ Int32.ofInt z < 0 := fun h1 h2 => by
    rw [show (0 : Int32) = Int32.ofInt 0 from rfl, om_lt h1 (by decide)]; omega
  refine va_copyi (ty := .int) (sp := Int32.ofInt sp) (dp := Int32.ofInt dp) (n := Int32.ofInt k) hx hb (by rw [hml]; exact hl.1.symm) hown (hts _ hlink) (hts _ (om_wgi (i := 410) (by decide +kernel))) (hts _ (om_wgi (i := 409) (by decide +kernel))) (hts _ (om_wgi (i := 86) (by decide +kernel))) hKx.1 hRe.2.2.1 hRe.2.2.2 hS a0 a 0 0 (om_at_arr (by omega) (by omega) ha0) (om_at_arr (by omega) (by omega) ha) rfl rfl rfl (zz zs hq.1) (zz zd hq.2.1) (zz zk hq.2.2.1) (by rw [om_cn' zs, om_cn' zk]; omega) (by rw [om_cn' zd, om_cn' zk]; omega) (fun _ _ => rfl) hfr (by rw [om_cats]; omega) hd ?_
  intro H1 locs1 hP1 hD1 hS1
  have hws : (om_ws ad b dA h).set a (ad.getD a 0, .inl (dA 20, n, .inl (va_cpy (fun j : Nat => Int32.ofInt (h.2 a0 j)) (fun j : Nat => Int32.ofInt (h.2 a j)) (Int32.ofInt sp).toNatClampNeg (Int32.ofInt dp).toNatClampNeg (Int32.ofInt k).toNatClampNeg))) = om_ws ad b dA (h.1, om_u h.2 a (om_cpy (h.2 a0) (h.2 a) sp dp k)) := by
    rw [← om_ws_setI ha, om_ce_arr (show 20 ≤ (20, n, vs).1 from Nat.le_refl _) (show (20 : Nat) ≠ 23 by decide), om_cn' zs, om_cn' zd, om_cn' zk]
    have e1 : va_cpy (fun j : Nat => Int32.ofInt (h.2 a0 j)) (fun j : Nat => Int32.ofInt (h.2 a j)) sp.toNat dp.toNat k.toNat = fun j : Nat => Int32.ofInt (om_cpy (h.2 a0) (h.2 a) sp dp k j) := by
      funext j
      unfold va_cpy om_cpy
      by_cases hj : dp.toNat ≤ j ∧ j < dp.toNat + k.toNat
      · rw [if_pos hj, if_pos (by omega)]
        show Int32.ofInt (h.2 a0 ((sp.toNat + (j - dp.toNat) : Nat) : Int)) = Int32.ofInt (h.2 a0 (sp + ((j : Int) - dp)))
        rw [show ((sp.toNat + (j - dp.toNat) : Nat) : Int) = sp + ((j : Int) - dp) by omega]
      · rw [if_neg hj, if_neg (by omega)]
    rw [e1]
  rw [hws] at hP1 hD1
  refine kk ad H1 locs1 ls h0 ⟨hRe.1, om_wf_u hRe.2.1 (List.getElem?_eq_some_iff.mp ha).1 (fun z => ?_), hP1, hD1⟩ hS1 hl hn hL hst
  unfold om_cpy
  split
  · exact hRe.2.1.2.1 _ _
  · exact hRe.2.1.2.1 _ _
end om_nw
