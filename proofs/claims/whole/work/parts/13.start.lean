-- ===== end of PART A; then your names; then what follows =====
/-! THE CLAIM OUT OF ONE WALK OF THE LAW'S BODY. Your part is whole_start (and what it stands on); all else here is the same for every law, but numbers. -/
def R_law : String := "OreSolverLaw"
def lw_P (b : Addr) (xs : List Int32) (args : Array Value) (s : State) : Prop := args = #[.ref b] ∧ s.IntsAt b xs ∧ xs.length ≤ 2561 ∧ (Jvm.Cond.and given_1 narrow_1).before args s = true
def lw_Q (_ : Array Value) (s : State) (o : Outcome) (t : State) : Prop := o = .returned (some (.int 1)) ∧ Framed s o t [] 600000 7302250
def lw_Z (below : List Frame) (a : Array Value) (s : State) : State → Prop := fun t => ∃ o, t.status = .running ∧ Ended t below o ∧ lw_Q a s o t
/-- the law's own end, with 1 on the stack, nothing written that was there before, its room as the claim has it -/
theorem lw_ret {p : Program} {l : Launch} {e : Env} {s : State} {m : MethodId} {below : List Frame} {meth : Method} {c : Code} {b : Nat} (hx : p.tables.exec = Jvm.exec) (hb : c.code = code) (hr : meth.sig.returnType = ret) (hlocks : meth.locks = false) {pc : Nat} {H : Heap} {ls : Array Slot} (hdg : decode code pc = .ok (.ireturn, 1)) : W p l e room_1 s m #[Value.ref b] below meth c H [] 600000 7302250 (lw_Z below #[Value.ref b] s) (F0 m pc ls [.int 1]) := by
  intro T hT X
  obtain ⟨fs, hret, hrun, hended, hW, hframe⟩ := X.leave (v := some (.int 1)) (hlocks := hlocks) (fun h => by rw [hr] at h; cases h)
  have hmeth' : T.vm.method? m = some meth := X.method'
  refine ⟨T.setFrames fs, ?_, .returned (some (.int 1)), hrun, hended, rfl, ⟨_, rfl⟩, hW, hframe⟩
  jvm_step X.here [X.here.top, hx, hb, hdg, hmeth', hr, ret, narrow_b1]
  (try refine ⟨rfl, ?_⟩); (try refine ⟨rfl, ?_⟩)
  first | (intro acts; rw [hret _ acts rfl rfl rfl]) | rw [hret _ _ rfl rfl rfl]
  exact Steps.refl _
/-- what holds at the law's entry: the machine, the code, the tables' words (any of lw_tbl by 'hts w (by decide +kernel)'), the script of L ints xs at the cell b, what the Statement gives of the start (any of its parts by flat_of_before) -/
def lw_At (p : Program) (s : State) (m : MethodId) (meth : Method) (c : Code) (b L : Nat) (xs : Nat → Int32) : Prop :=
  p.tables.exec = Jvm.exec ∧ c.code = code ∧ meth.sig.returnType = ret ∧ c.maxLocals = 4 ∧ s.vm.findClass R_law = some m.cls ∧ (∀ w ∈ lw_tbl, w.before #[Value.ref b] s = true) ∧ va_X b L xs s s.heap ∧ b < s.heap.size ∧ meth.locks = false ∧ (Jvm.Cond.and given_1 narrow_1).before #[Value.ref b] s = true
-- ===== YOUR PART BEGINS =====

/-- the law from its entry, out of a run of the small machine -/
theorem om_start (hmain : ∀ (n : Nat) (xs : Nat → Int32), n ≤ 2561 → om_R (om_scr n xs) 60 0 0 [om_sc, om_un, om_un, om_un] [] ([], fun _ _ => 0) (fun v h' => v = some (om_i 1) ∧ h'.1.length ≤ 600000 ∧ om_sz h' ≤ 7302250)) {p : Program} {e : Env} {s : State} {m : MethodId} {below : List Frame} {meth : Method} {c : Code} (l : Launch) {b L : Nat} {xs : Nat → Int32} (hL : L ≤ 2561) (C0 : lw_At p s m meth c b L xs) : W p l e room_1 s m #[Value.ref b] below meth c s.heap [] 0 0 (lw_Z below #[Value.ref b] s) (entryFrame m ([Value.ref b] : List Value).toArray 4) := by
  obtain ⟨hx, hb, hr, hml, hown, hts, hX, hbl, hlocks, hgv⟩ := id C0
  obtain ⟨f, v, h', hrun, rfl, hlen, hsz⟩ := hmain L xs hL
  have hwg : ∀ w ∈ om_wg, w.before #[Value.ref b] s = true := fun w hw => hts w (om_wg_good w hw).1
  have hkn : ∀ ci : Nat, ∃ (cc : ClassId) (iS : Nat → Nat), ci < 10 → u_Kn s (om_cn ci) (om_fT ci) (om_fN ci) cc iS := by
    intro ci
    by_cases hc : ci < 10
    · obtain ⟨c0, iS0, h0⟩ := u_known (C := om_cn ci) (T := om_fT ci) (N := om_fN ci) (n := om_fN ci) hwg (om_lays hc).1 (hwg _ (om_lays hc).2.1)
      exact ⟨c0, iS0, fun _ => h0⟩
    · exact ⟨0, fun _ => 0, fun h => absurd h hc⟩
  obtain ⟨dC, hdC⟩ := Classical.axiomOfChoice hkn
  obtain ⟨dI, hdI⟩ := Classical.axiomOfChoice hdC
  obtain ⟨c20, k20, p20, a20, b20, d20⟩ := Cond.arrayClass_spec (hwg (.arrayClass .int) (om_wgi (i := 129) (by decide +kernel)))
  obtain ⟨c21, k21, p21, a21, b21, d21⟩ := Cond.arrayClass_spec (hwg (.arrayClass .char) (om_wgi (i := 112) (by decide +kernel)))
  obtain ⟨c22, k22, p22, a22, b22, d22⟩ := Cond.arrayClass_spec (hwg (.arrayClass .boolean) (om_wgi (i := 764) (by decide +kernel)))
  have hao : va_AO "OreSolver$Operator" s := va_AO.of (hts (.arrayOver (.object "OreSolver$Operator")) (List.mem_of_getElem? (i := 96) (by decide +kernel)))
  have hnw : va_Nw om_nw s := va_Nw.of (by decide +kernel) (hts om_nw (List.mem_of_getElem? (i := 99) (by decide +kernel)))
  obtain ⟨p23, c23, k23, e23, -, b23, d23, a23⟩ := Cond.arrayOver_spec hao
  have hKx : om_Kx (dC, dI) (fun k => if k = 20 then c20 else if k = 21 then c21 else if k = 22 then c22 else c23) b s.heap.size (om_scr L xs) s := by
    refine ⟨⟨fun ci q hq => ?_, fun k q hk => ?_⟩, ⟨L, xs, by omega, hX, rfl⟩, hbl, Nat.le_refl _, hao, hnw⟩
    · have hc : ci < 10 := (List.getElem?_eq_some_iff.mp hq).1
      rw [om_cl_at hc] at hq
      cases hq
      exact hdI ci hc
    · match k, hk with
      | 0, hk => cases hk; exact ⟨fun N z => ⟨(fun k h => by cases h), k20, b20, p20, d20⟩, a20⟩
      | 1, hk => cases hk; exact ⟨fun N z => ⟨(fun k h => by cases h), k21, b21, p21, d21⟩, a21⟩
      | 2, hk => cases hk; exact ⟨fun N z => ⟨(fun k h => by cases h), k22, b22, p22, d22⟩, a22⟩
      | 3, hk => cases hk; exact ⟨fun N z => ⟨(fun k h => by cases h), k23, b23, p23, d23⟩, k23, p23, b23, d23, e23, a23⟩
      | n + 4, hk => simp [om_tys] at hk
  have C : om_Cx p s m #[Value.ref b] meth c 0 (dC, dI) (fun k => if k = 20 then c20 else if k = 21 then c21 else if k = 22 then c22 else c23) b s.heap.size (om_scr L xs) := ⟨hx, hb, hml, hown, hwg, hr, hlocks, (fun h => absurd h (by decide)), hKx⟩
  have hl := lv_entry ([.ref b]) (n := 4) (Nat.le_of_ble_eq_true rfl)
  rw [lg_entry_eq]
  have G1 := (om_sim f 60 0 0 [om_sc, om_un, om_un, om_un] [] ([], fun _ _ => 0) (some (om_i 1)) h' hrun (p := p) (l := l) (e := e) (R := room_1) (s := s) (m := m) (args := #[Value.ref b]) (below := below) (meth := meth) (c := c) (Q := lw_Z below #[Value.ref b] s) (D := (dC, dI)) (dA := fun k => if k = 20 then c20 else if k = 21 then c21 else if k = 22 then c22 else c23) (b := b) (bs := s.heap.size) (ad0 := []) (cells := 0) (slots := 0)).2 C (by decide) (by decide) (by show 0 + (h'.1.length - 0) ≤ 600000; omega) (by show 0 + (om_sz h' - 0) ≤ 7302250; omega) ?_
  · refine G1 [] s.heap [] _ (List.prefix_refl _) ⟨rfl, ⟨fun q hq => (by cases hq), fun a z => (show om_Z 0 by decide), fun a _ z => rfl⟩, fun k q hk => (by simp [om_ws] at hk), ⟨fun i j p q hi => (by simp [om_ws] at hi), fun k q hk => (by simp [om_ws] at hk)⟩⟩ va_S.rf (om_entry (as := [om_sc]) hl 3) rfl ?_ (fun w hw => by cases hw)
    intro w hw
    simp only [List.mem_cons, List.not_mem_nil, or_false] at hw
    rcases hw with rfl | rfl | rfl | rfl
    · exact Or.inr (Or.inr rfl)
    · exact Or.inl rfl
    · exact Or.inl rfl
    · exact Or.inl rfl
  · intro pc1 L1 st1 hrf
    intro ad H locs ls h0 hRe hS hl hn hL hst
    obtain ⟨-, hrf⟩ := hrf
    rcases hrf with ⟨h1, -⟩ | ⟨z, h1, rfl, hd⟩ | ⟨z, h1, -⟩
    · cases h1
    · cases h1
      refine va_forget (fun q hq => hS.2.2 q hq) ?_
      refine W.widen (k := 600000) (n := 7302250) (by show 0 + (h'.1.length - 0) ≤ 600000; omega) (by show 0 + (om_sz h' - 0) ≤ 7302250; omega) ?_
      exact lw_ret hx hb hr hlocks hd
    · cases h1
