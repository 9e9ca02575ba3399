/-! runs of the small machine are runs of the machine -/
theorem om_Kx_calling {D : va_G} {dA : Nat → ClassId} {b bs : Nat} {sc : Int × (Int → Int)} {U : State} (g : JFrame) (mk : MethodId) (a : Array Value) (k : om_Kx D dA b bs sc U) : om_Kx D dA b bs sc (U.calling g mk a) := by
  obtain ⟨k1, ⟨n, xs, hn, hX, hs⟩, k3, k4, k5, k6⟩ := k
  exact ⟨va_K.moved (u := U) (U := U.calling g mk a) (Vm.Alike.refl U.vm) k1, ⟨n, xs, hn, va_X.moved (u := U) (U := U.calling g mk a) (Vm.Alike.refl U.vm) hX, hs⟩, k3, k4, va_AO.moved (u := U) (U := U.calling g mk a) (Vm.Alike.refl U.vm) k5, va_Nw.same (u := U) (U := U.calling g mk a) (by decide +kernel) rfl k6⟩
theorem om_Kx_warm {D : va_G} {dA : Nat → ClassId} {b bs : Nat} {sc : Int × (Int → Int)} {s U : State} {H : Heap} {locs : List Loc} (hS : va_S (fun q => bs ≤ q) s.heap H locs) (k : om_Kx D dA b bs sc s) (hU : U.heap = H) (hW : s.WarmedH U.vm) : om_Kx D dA b bs sc U := by
  obtain ⟨k1, ⟨n, xs, hn, hX, hs⟩, k3, k4, k5, k6⟩ := k
  refine ⟨va_K.moved hW.alike k1, ⟨n, xs, hn, ?_, hs⟩, k3, Nat.le_trans k4 (by rw [hU]; exact hS.1), va_AO.moved hW.alike k5, va_Nw.warmM hW k6⟩
  obtain ⟨scr, h1, h2, h3⟩ := va_X.moved hW.alike hX
  refine ⟨scr, ?_, h2, h3⟩
  rw [hU, hS.2.1 b (by omega) (show ¬ bs ≤ b by omega)]
  exact h1
theorem om_sl (ad : List Nat) (b : Nat) : ∀ as : List om_V, (lg_sl (as.map (om_tr ad b))).length = as.length
  | [] => rfl
  | v :: as => by
    have h := om_sl ad b as
    have hc : ¬ (om_tr ad b v).category = 2 := by rw [om_cat]; decide
    simp only [lg_sl, List.map_cons, List.flatMap_cons, if_neg hc, List.length_append, List.length_cons, List.length_nil] at h ⊢
    omega
theorem om_args (ad : List Nat) (b : Nat) : ∀ (as : List om_V) (i k : Nat) (v : om_V), as[k]? = some v → (i + k, om_tr ad b v) ∈ lv_args i (as.map (om_tr ad b))
  | [], i, k, v, h => by simp at h
  | w :: as, i, 0, v, h => by
    have : w = v := by simpa using h
    subst this
    exact List.mem_cons_self
  | w :: as, i, k + 1, v, h => by
    have hc : ¬ (om_tr ad b w).category = 2 := by rw [om_cat]; decide
    simp only [List.map_cons, lv_args, if_neg hc]
    have h2 := om_args ad b as (i + 1) k v (by simpa using h)
    rw [show i + (k + 1) = i + 1 + k by omega]
    exact List.mem_cons_of_mem _ h2
theorem om_entry {ad : List Nat} {b n : Nat} {as : List om_V} {ls : Array Slot} (h : lv_has ls n (lv_args 0 (as.map (om_tr ad b)))) (k : Nat) : lv_has ls n (om_lv ad b (as ++ List.replicate k om_un)) := by
  refine ⟨h.1, h.2.1, fun q hq => ?_⟩
  obtain ⟨w, h1, h2, h3⟩ := om_lv_mem.mp hq
  by_cases hl : q.1 < as.length
  · rw [List.getElem?_append_left hl] at h1
    have h4 := om_args ad b as 0 q.1 w h1
    rw [Nat.zero_add, ← h3] at h4
    exact h.2.2 q h4
  · rw [List.getElem?_append_right (by omega)] at h1
    exact absurd (List.eq_of_mem_replicate (List.mem_of_getElem? h1)) h2
theorem om_rk_rt {mi : Nat} (h : mi < 160) : om_rck mi = true := List.all_eq_true.mp om_rok1 mi (List.mem_range.mpr h)
theorem om_nar_b {z : Int} (h : z = 0 ∨ z = 1) : narrow .boolean (.int (Int32.ofInt z)) = .int (Int32.ofInt z) := by
  rcases h with rfl | rfl <;> rfl
theorem om_nar_c2 {x : Int} (h0 : 0 ≤ x) (h1 : x ≤ 65535) : narrow .char (.int (Int32.ofInt x)) = .int (Int32.ofInt x) := by
  have h2 := (pk_charN (q := x.toNat) (by omega)).1
  have e1 : nI x.toNat = Int32.ofInt x := by
    show Int32.ofNat _ = _
    rw [om_nn, Int.toNat_of_nonneg h0]
  rwa [e1] at h2
section om_sims
variable {p : Program} {l : Launch} {e : Env} {R : Room} {s : State} {m : MethodId} {args : Array Value} {below : List Frame} {meth : Method} {c : Code} {Q : State → Prop} {mi : Nat} {D : va_G} {dA : Nat → ClassId} {b bs : Nat} {sc : Int × (Int → Int)} {ad0 : List Nat} {cells slots pc : Nat} {L st : List om_V} {h : om_H}
/-- a method's end -/
def om_Qc (D : va_G) (dA : Nat → ClassId) (b bs : Nat) (ad : List Nat) (v : Option om_V) (h1 : om_H) : Array Value → State → Outcome → State → Prop := fun _ st0 o t =>
  (∃ ad', ad <+: ad' ∧ o = .returned (v.map (om_tr ad' b)) ∧ om_Re D dA (fun q => bs ≤ q) b ad' h1 t.heap ∧ ∀ w ∈ v.toList, om_ok h1.1.length w) ∧ va_F (fun q => bs ≤ q) st0 t
theorem om_fin (hmi : mi < 160) (C : om_Cx p s m args meth c mi D dA b bs sc) {v : Option om_V} (hr : om_Rf mi pc st v) : om_Gd p l e R s m args below meth c (MQ below (om_Qc D dA b bs ad0 v h) args s cells slots (fun q => bs ≤ q)) mi D dA b bs ad0 pc L st h cells slots := by
  intro ad H locs ls h0 hRe hS hl hn hL hst
  obtain ⟨hx, hb, hml, hown, hts, hret, hlk, hin, hKx⟩ := C
  obtain ⟨hok, hr⟩ := hr
  have hk := om_rk_rt hmi
  unfold om_rck at hk
  unfold om_rok at hok
  have good : ∀ t : State, t.heap = H → s.WarmedH t.vm → om_Qc D dA b bs ad0 v h args s (.returned (v.map (om_tr ad b))) t := by
    intro t ht hW
    refine ⟨⟨ad, h0, rfl, by rw [ht]; exact hRe, ?_⟩, hS.F ht⟩
    rcases hr with ⟨rfl, rfl, -⟩ | ⟨z, rfl, rfl, -⟩ | ⟨z, rfl, rfl, -⟩
    · exact fun w hw => by cases hw
    · exact hst
    · exact hst
  rcases hr with ⟨rfl, rfl, hd⟩ | ⟨z, rfl, rfl, hd⟩ | ⟨z, rfl, rfl, hd⟩
  · split at hk
    · rename_i e1 e2
      exact W.vret hx hb (hret.trans e2) good (fun q hq => hS.2.2 q hq) hd hlk
    all_goals (first | (rename_i e1 e2; rw [e1] at hok; cases hok; done) | (cases hk; done))
  · split at hk
    · rename_i e1 e2
      rw [e1] at hok
      cases hok
    · rename_i e1 e2
      exact W.iret hx hb (hret.trans e2) good (fun q hq => hS.2.2 q hq) hd hlk
    · rename_i e1 e2
      rw [e1] at hok
      have hz : z = 0 ∨ z = 1 := by simpa using hok
      exact W.zret hx hb (hret.trans e2) (om_nar_b hz) good (fun q hq => hS.2.2 q hq) hd hlk
    · rename_i e1 e2
      rw [e1] at hok
      have hz : 0 ≤ z ∧ z ≤ 65535 := by simpa using hok
      exact W.zret hx hb (hret.trans e2) (om_nar_c2 hz.1 hz.2) good (fun q hq => hS.2.2 q hq) hd hlk
    · rename_i e1 e2
      rw [e1] at hok
      cases hok
    · cases hk
  · split at hk
    · rename_i e1 e2
      rw [e1] at hok
      cases hok
    · rename_i e1 e2
      rw [e1] at hok
      cases hok
    · rename_i e1 e2
      rw [e1] at hok
      cases hok
    · rename_i e1 e2
      rw [e1] at hok
      cases hok
    · rename_i n e1 e2
      exact W.aret hx hb (hret.trans e2) (Or.inl ⟨_, rfl⟩) (Or.inr ⟨_, rfl⟩) good (fun q hq => hS.2.2 q hq) hd hlk
    · cases hk
/-- behind a call -/
theorem om_after {ad : List Nat} {ls : Array Slot} {H : Heap} {locs : List Loc} {mc ms : Nat} {st0 : List Value} {a : Array Value} {v : Option om_V} {h1 : om_H} (hrun : va_Run p l e R s m args below meth c H locs cells slots mc ms (F0 m pc ls st0) (st.map (om_tr ad b)) (om_Qc D dA b bs ad v h1 a) (fun q => bs ≤ q)) (hlen : h.1.length ≤ h1.1.length) (h0 : ad0 <+: ad) (hRe : om_Re D dA (fun q => bs ≤ q) b ad h H) (hS : va_S (fun q => bs ≤ q) s.heap H locs) (hl : lv_has ls (om_ml mi) (om_lv ad b L)) (hn : L.length = om_ml mi) (hL : ∀ v ∈ L, v = om_un ∨ om_ok h.1.length v) (hst : ∀ v ∈ st, om_ok h.1.length v) (kk : (om_Gd p l e R s m args below meth c Q mi D dA b bs ad0 (pc + 3) (L) (v.toList ++ st) (h1) (cells + mc) (slots + ms))) : W p l e R s m args below meth c H locs cells slots Q (F0 m pc ls st0) := by
  intro T hT X
  obtain ⟨v', st1, t, T', Lc, e0, X', hLc, e1, e2, ⟨⟨ad', hpre, hv, hRe', hvo⟩, hz, hk⟩, hgo⟩ := hrun T hT X
  cases hv
  rw [e0] at hz hk
  have hS' : va_S (fun q => bs ≤ q) s.heap T'.heap (locs ++ Lc) := by
    refine ⟨Nat.le_trans hS.1 (by rw [e1]; exact hz), fun q q1 q2 => ?_, fun q hq => ?_⟩
    · rw [e1, hk q (Nat.lt_of_lt_of_le q1 hS.1) q2]
      exact hS.2.1 q q1 q2
    · rcases List.mem_append.mp hq with q1 | q1
      · exact hS.2.2 q q1
      · exact hLc q q1
  have hle : ad.length ≤ ad'.length := hpre.length_le
  have K := kk ad' T'.heap (locs ++ Lc) ls (h0.trans hpre) (by rw [e1]; exact hRe') hS' (om_lv_pre hpre (by rw [hRe.1]; exact hL) hl) hn (fun w hw => (hL w hw).imp id (om_ok_le hlen)) (fun w hw => by
    rcases List.mem_append.mp hw with q | q
    · exact hvo w q
    · exact om_ok_le hlen (hst w q))
  have e4 := om_map_pre (b := b) (l := st) hpre (by rw [hRe.1]; exact hst)
  rw [List.map_append, e4] at K
  have e3 : (v.toList).map (om_tr ad' b) = (v.map (om_tr ad' b)).toList := by cases v <;> rfl
  rw [e3] at K
  obtain ⟨t2, a1, b1⟩ := K T' rfl X'
  exact ⟨t2, hgo t2 a1, b1⟩
theorem om_cw {ci : Nat} (h1 : 0 < ci) (h2 : ci < 160) (h3 : ci ≠ 33) : Cond.code (om_y ci) (om_by ci) (om_ml ci) (om_rt ci) ∈ om_wg := by
  have h4 := (om_ic h1 h2 h3).1
  exact List.mem_filter.mpr ⟨h4, by rfl⟩
theorem om_gi {ci : Nat} (h1 : 0 < ci) (h2 : ci < 160) (h3 : ci ≠ 33) : GoodIn om_wg (Cond.code (om_y ci) (om_by ci) (om_ml ci) (om_rt ci) :: om_wg) := by
  intro w hw
  have hm : w ∈ om_wg := by
    rcases List.mem_cons.mp hw with rfl | q
    · exact om_cw h1 h2 h3
    · exact q
  exact ⟨hm, good_of_word (om_wg_good w hm).2⟩
/-- what the tables say of a method -/
theorem om_it {ci : Nat} (h1 : 0 < ci) (h2 : ci < 160) (h3 : ci ≠ 33) : (om_st ci = true → Cond.static (om_y ci) ∈ om_wg) ∧ (om_st ci = false → Cond.instanceMethod (om_y ci) ∈ om_wg) ∧ (om_st ci = false → om_in ci = false → Cond.selects (om_cn (om_ow ci)) (om_y ci) (om_y ci) ∈ om_wg) ∧ Cond.initialized (om_y ci).cls ∈ om_wg ∧ (om_y ci).cls = om_cn (om_ow ci) ∧ plainName (om_y ci).cls = true ∧ (om_y ci).cls ≠ "java/lang/invoke/MethodHandle" ∧ (om_y ci).cls ≠ "java/lang/invoke/VarHandle" ∧ (parseMethodDescriptor (om_y ci).desc).map (fun d => d.parameters.length) = some (om_np ci) ∧ (om_in ci = true → (om_y ci).name = "<init>") ∧ om_ml ci ≤ 13 ∧ om_np ci + (if om_st ci then 0 else 1) ≤ om_ml ci := by
  have h4 := (om_ic h1 h2 h3).2
  unfold om_ick at h4
  cases hq : om_mix.getD ci (0, 0, 0, 0) with
  | mk a q =>
    obtain ⟨b, s, n⟩ := q
    rw [hq] at h4
    simp only [Bool.and_eq_true, decide_eq_true_eq] at h4
    obtain ⟨⟨⟨⟨⟨⟨⟨⟨⟨⟨a1, a2⟩, a3⟩, a4⟩, a5⟩, a6⟩, a7⟩, a8⟩, a9⟩, a10⟩, a11⟩ := h4
    refine ⟨fun q => ?_, fun q => ?_, fun q1 q2 => ?_, ?_, a4, a5, a6, a7, a8, fun q => ?_, a10, a11⟩
    · rw [if_pos q] at a1
      exact om_wgi a1
    · rw [if_neg (by rw [q]; decide)] at a1
      exact om_wgi a1
    · rw [q1, q2] at a2
      exact om_wgi (by simpa using a2)
    · rw [a4]
      exact om_wgi a3
    · rw [q] at a9
      simpa using a9
end om_sims
set_option maxHeartbeats 4000000 in
theorem om_sim {sc : Int × (Int → Int)} : ∀ (f d mi pc : Nat) (L st : List om_V) (h : om_H) (v : Option om_V) (h' : om_H), om_run sc d f mi pc L st h = some (v, h') →
    ∀ {p : Program} {l : Launch} {e : Env} {R : Room} {s : State} {m : MethodId} {args : Array Value} {below : List Frame} {meth : Method} {c : Code} {Q : State → Prop} {D : va_G} {dA : Nat → ClassId} {b bs : Nat} {ad0 : List Nat} {cells slots : Nat}, (h.1.length ≤ h'.1.length ∧ om_sz h ≤ om_sz h') ∧ (om_Cx p s m args meth c mi D dA b bs sc → d + 1 ≤ R.frames → 40 * (d + 1) ≤ R.locals → cells + (h'.1.length - h.1.length) ≤ R.cells → slots + (om_sz h' - om_sz h) ≤ R.slots →
      (∀ (pc1 : Nat) (L1 st1 : List om_V), om_Rf mi pc1 st1 v → (om_Gd p l e R s m args below meth c Q mi D dA b bs ad0 (pc1) (L1) (st1) (h') (cells + (h'.1.length - h.1.length)) (slots + (om_sz h' - om_sz h)))) → (om_Gd p l e R s m args below meth c Q mi D dA b bs ad0 (pc) (L) (st) (h) (cells) (slots))) := by
  intro f
  induction f with
  | zero =>
    intro d mi pc L st h v h' hr
    simp [om_run] at hr
  | succ f ih =>
    intro d mi pc L st h v h' hr p l e R s m args below meth c Q D dA b bs ad0 cells slots
    rw [om_run] at hr
    cases hs : om_step sc mi pc L st h with
    | none => rw [hs] at hr; cases hr
    | some r =>
      rw [hs] at hr
      have hP := om_inv (p := p) (l := l) (e := e) (R := R) (s := s) (m := m) (args := args) (below := below) (meth := meth) (c := c) (Q := Q) (D := D) (dA := dA) (b := b) (bs := bs) (ad0 := ad0) (cells := cells) (slots := slots) hs
      rcases r with ⟨v1, h1⟩ | ⟨pc1, L1, st1, h1⟩ | ⟨ci, as, pc1, L1, st1⟩
      · cases hr
        obtain ⟨rfl, hP⟩ := hP
        refine ⟨⟨Nat.le_refl _, Nat.le_refl _⟩, fun C _ _ _ _ fin => ?_⟩
        have g := fin pc L st hP
        simpa only [Nat.sub_self, Nat.add_zero] using g
      · dsimp only at hr
        obtain ⟨⟨m1, m2⟩, hN⟩ := hP
        have I := ih d mi pc1 L1 st1 h1 v h' hr (p := p) (l := l) (e := e) (R := R) (s := s) (m := m) (args := args) (below := below) (meth := meth) (c := c) (Q := Q) (D := D) (dA := dA) (b := b) (bs := bs) (ad0 := ad0) (cells := cells + (h1.1.length - h.1.length)) (slots := slots + (om_sz h1 - om_sz h))
        obtain ⟨⟨m3, m4⟩, hI⟩ := I
        refine ⟨⟨by omega, by omega⟩, fun C r1 r2 r3 r4 fin => ?_⟩
        refine hN C (by omega) (by omega) (by omega) (by omega) (hI C r1 r2 (by omega) (by omega) (fun pc2 L2 st2 hr2 => ?_))
        have g := fin pc2 L2 st2 hr2
        rw [show cells + (h1.1.length - h.1.length) + (h'.1.length - h1.1.length) = cells + (h'.1.length - h.1.length) by omega, show slots + (om_sz h1 - om_sz h) + (om_sz h' - om_sz h1) = slots + (om_sz h' - om_sz h) by omega]
        exact g
      · obtain ⟨hpc1, hL1, q1, q2, q3, q4, q5, hcall⟩ := hP
        rw [hpc1, hL1] at hr
        cases d with
        | zero => cases hr
        | succ d =>
          dsimp only at hr
          cases hc : om_run sc d f ci 0 (om_loc ci as) [] h with
          | none => rw [hc] at hr; cases hr
          | some w =>
            obtain ⟨v1, h1⟩ := w
            rw [hc] at hr
            dsimp only at hr
            have I1 := @ih d ci 0 (om_loc ci as) [] h v1 h1 hc
            obtain ⟨m1, m2⟩ := (I1 (p := p) (l := l) (e := e) (R := R) (s := s) (m := m) (args := args) (below := below) (meth := meth) (c := c) (Q := Q) (D := D) (dA := dA) (b := b) (bs := bs) (ad0 := ad0) (cells := 0) (slots := 0)).1
            have I := ih (d + 1) mi (pc + 3) L (v1.toList ++ st1) h1 v h' hr (p := p) (l := l) (e := e) (R := R) (s := s) (m := m) (args := args) (below := below) (meth := meth) (c := c) (Q := Q) (D := D) (dA := dA) (b := b) (bs := bs) (ad0 := ad0) (cells := cells + (0 + (h1.1.length - h.1.length))) (slots := slots + (0 + (om_sz h1 - om_sz h)))
            obtain ⟨⟨m3, m4⟩, hI⟩ := I
            refine ⟨⟨by omega, by omega⟩, fun C r1 r2 r3 r4 fin => ?_⟩
            have K := hI C r1 r2 (by omega) (by omega) (fun pc2 L2 st2 hr2 => by
              have g := fin pc2 L2 st2 hr2
              rw [show cells + (0 + (h1.1.length - h.1.length)) + (h'.1.length - h1.1.length) = cells + (h'.1.length - h.1.length) by omega, show slots + (0 + (om_sz h1 - om_sz h)) + (om_sz h' - om_sz h1) = slots + (om_sz h' - om_sz h) by omega]
              exact g)
            clear hI ih
            obtain ⟨t1, t2, t3, t4, t5, t6, t7, t8, t9, t10, t11, t12⟩ := om_it q1 q2 q3
            intro ad H locs ls h0 hRe hS hl hn hL hst
            subst q4
            have hasok : ∀ w ∈ as, om_ok h.1.length w := fun w hw => hst w (List.mem_append_left _ (List.mem_reverse.mpr hw))
            have hst1 : ∀ w ∈ st1, om_ok h.1.length w := fun w hw => hst w (List.mem_append_right _ hw)
            have hasl : as.length ≤ om_ml ci := by
              rcases hcall with ⟨_, _, _, _, _, _, s1, _, s2, _⟩ | ⟨_, _, _, s1, s2⟩ | ⟨_, _, _, _, s1, _, s2, _⟩
              · rw [s1] at t12; simp at t12; omega
              · rw [s1] at t12; simp at t12; omega
              · rw [s1] at t12; simp at t12; omega
            have hMet : Met l (om_y ci) (Cond.code (om_y ci) (om_by ci) (om_ml ci) (om_rt ci) :: om_wg) { frames := d + 1, cells := 0 + (h1.1.length - h.1.length), slots := 0 + (om_sz h1 - om_sz h), locals := 40 * (d + 1) } (va_Pc (as.map (om_tr ad b)) (fun U => om_Re D dA (fun q => bs ≤ q) b ad h U.heap ∧ om_Kx D dA b bs sc U)) (om_Qc D dA b bs ad v1 h1) (0 + (h1.1.length - h.1.length)) (0 + (om_sz h1 - om_sz h)) (fun q => bs ≤ q) := by
              refine Met.ofW (cc := om_by ci) (maxL := om_ml ci) (ret := om_rt ci) t6 rfl ?_
              intro p' e' s' m' args' below' meth' c' s₁ B hml hv
              obtain ⟨rfl, hRe', hKx'⟩ := hv
              have hts' := atoms_spec (ws := Cond.code (om_y ci) (om_by ci) (om_ml ci) (om_rt ci) :: om_wg) B.pre
              have C' : om_Cx p' s' m' (as.map (om_tr ad b)).toArray meth' c' ci D dA b bs sc := ⟨B.exec, B.bytes, hml, by rw [← t5]; exact findClass_of_methodNamed B.named, fun w hw => hts' w (List.mem_cons_of_mem _ hw), B.returns, B.notSynchronized, fun q => (name_of_methodNamed B.named B.method).1.trans (t10 q), hKx'⟩
              rw [lg_entry_eq]
              have hl' := lv_entry (as.map (om_tr ad b)) (n := om_ml ci) (by rw [om_sl]; exact hasl)
              have G1 := (I1 (p := p') (l := l) (e := e') (R := { frames := d + 1, cells := 0 + (h1.1.length - h.1.length), slots := 0 + (om_sz h1 - om_sz h), locals := 40 * (d + 1) }) (s := s') (m := m') (args := (as.map (om_tr ad b)).toArray) (below := below') (meth := meth') (c := c') (Q := MQ below' (om_Qc D dA b bs ad v1 h1) (as.map (om_tr ad b)).toArray s' (0 + (h1.1.length - h.1.length)) (0 + (om_sz h1 - om_sz h)) (fun q => bs ≤ q)) (D := D) (dA := dA) (b := b) (bs := bs) (ad0 := ad) (cells := 0) (slots := 0)).2 C' (Nat.le_refl _) (Nat.le_refl _) (Nat.le_refl _) (Nat.le_refl _) (fun pc2 L2 st2 hr2 => om_fin q2 C' hr2)
              refine G1 ad s'.heap [] _ (List.prefix_refl _) hRe' va_S.rf (om_entry hl' (om_ml ci - as.length)) ?_ ?_ (fun w hw => by cases hw)
              · simp only [om_loc, List.length_append, List.length_replicate]
                omega
              · intro w hw
                rcases List.mem_append.mp hw with q | q
                · exact Or.inr (hasok w q)
                · exact Or.inl (List.eq_of_mem_replicate q)
            have hpc : FrameBlind (va_Pc (as.map (om_tr ad b)) (fun U => om_Re D dA (fun q => bs ≤ q) b ad h U.heap ∧ om_Kx D dA b bs sc U)) := fun a U g mk q => ⟨q.1, q.2.1, om_Kx_calling g mk a q.2.2⟩
            have hpre : ∀ U : State, U.heap = H → s.WarmedH U.vm → va_Pc (as.map (om_tr ad b)) (fun U => om_Re D dA (fun q => bs ≤ q) b ad h U.heap ∧ om_Kx D dA b bs sc U) (as.map (om_tr ad b)).toArray U := fun U hU hW => ⟨rfl, by rw [hU]; exact hRe, om_Kx_warm hS C.2.2.2.2.2.2.2.2 hU hW⟩
            have hcb : ∀ {i : Nat}, Cond.methodLink (om_cn (om_ow mi)) i (om_y ci) ∈ om_wg → CallB R s args (om_cn (om_ow mi)) i (om_y ci) (om_by ci) (om_ml ci) (om_rt ci) (Cond.code (om_y ci) (om_by ci) (om_ml ci) (om_rt ci) :: om_wg) { frames := d + 1, cells := 0 + (h1.1.length - h.1.length), slots := 0 + (om_sz h1 - om_sz h), locals := 40 * (d + 1) } (0 + (h1.1.length - h.1.length)) (0 + (om_sz h1 - om_sz h)) (om_np ci) := fun hlink => callB_of (om_np ci) C.2.2.2.2.1 (om_gi q1 q2 q3) rfl rfl rfl (C.2.2.2.2.1 _ t4) (C.2.2.2.2.1 _ hlink) ⟨t7, t8, t9⟩ ⟨r1, by show 8 + (om_ml ci + 11) + 40 * (d + 1) ≤ R.locals; omega⟩
            have hroom : (((st1.map (om_tr ad b)).map fun v => v.category).sum) ≤ 8 := by rw [om_cats]; exact q5
            refine om_after (h := h) ?_ m1 h0 hRe hS hl hn hL hst1 K (a := (as.map (om_tr ad b)).toArray)
            have SF : CallFix p m c (om_by mi) (om_ml mi) s args om_wg (om_cn (om_ow mi)) := ⟨C.1, C.2.1, C.2.2.1, C.2.2.2.1, C.2.2.2.2.1⟩
            have hstk : (as.reverse ++ st1).map (om_tr ad b) = (as.map (om_tr ad b)).reverse ++ st1.map (om_tr ad b) := by simp
            rcases hcall with ⟨i, a, n, vs, hd, hlink, s1, s2, s3, s4, s5⟩ | ⟨i, hd, hlink, s1, s3⟩ | ⟨i, a, hd, hlink, s1, s2, s3, s4⟩
            · cases as with
              | nil => simp at s4
              | cons r0 as' =>
                have hr0 : r0 = .inr (.inl a) := by simpa using s4
                subst hr0
                have hcn : om_ow ci < 10 := by
                  have hat := om_ws_at (ad := ad) (b := b) (dA := dA) s5
                  obtain ⟨yy, hyy⟩ := List.getElem?_of_mem (t3 s1 s2)
                  exact Decidable.byContradiction (fun hge => by
                    have := List.all_eq_true.mp (show (List.range 160).all (fun k => om_st k || decide (om_ow k < 10)) = true by decide +kernel) ci (List.mem_range.mpr q2)
                    rw [s1] at this
                    simp at this
                    omega)
                have hat := om_ws_at (ad := ad) (b := b) (dA := dA) s5
                rw [om_ce_obj (show (om_ow ci, n, vs).1 < 10 from hcn)] at hat
                have hrecv := va_recv C.2.2.2.2.2.2.2.2.1 hRe.2.2.1 (om_cl_at hcn) hat
                exact va_runV (As := as'.map (om_tr ad b)) (b := ad.getD a 0) (C := om_cn (om_ow ci)) SF hMet ⟨hcb hlink, C.2.2.2.2.1 _ (t2 s1), C.2.2.2.2.1 _ (t3 s1 s2)⟩ ⟨hpc, hrecv, hpre⟩ rfl (by simp at s3 ⊢; exact s3) hl.1 (by rw [hstk]; simp [om_tr]) (lv_room hroom) hd ⟨by omega, by omega⟩
            · exact va_runS (As := as.map (om_tr ad b)) SF hMet ⟨hcb hlink, C.2.2.2.2.1 _ (t1 s1)⟩ ⟨hpc, hpre⟩ rfl (by simpa using s3) hl.1 (by rw [hstk]) (lv_room hroom) hd ⟨by omega, by omega⟩
            · cases as with
              | nil => simp at s4
              | cons r0 as' =>
                have hr0 : r0 = .inr (.inl a) := by simpa using s4
                subst hr0
                have hrv : om_rt ci = none := by
                  have h5 := List.all_eq_true.mp (show (List.range 160).all (fun k => !om_in k || decide (om_rt k = none)) = true by decide +kernel) ci (List.mem_range.mpr q2)
                  rw [s2] at h5
                  simpa using h5
                rcases hlink with hlink | ⟨g1, g2, g3⟩
                · have hcb' := hcb hlink
                  rw [hrv] at hcb'
                  rw [hrv] at hMet
                  exact va_runI (As := as'.map (om_tr ad b)) (b := ad.getD a 0) SF hMet ⟨hcb', t10 s2, C.2.2.2.2.1 _ (t2 s1)⟩ ⟨hpc, hpre⟩ rfl (by simp at s3 ⊢; exact s3) hl.1 (by rw [hstk]; simp [om_tr]) (lv_room hroom) hd ⟨by omega, by omega⟩
                · have hnw : va_Nw (.methodLinkNest (om_cn (om_ow mi)) i (om_y ci) "OreSolver") s := by
                    rw [g1, g2, g3]
                    exact C.2.2.2.2.2.2.2.2.2.2.2.2.2
                  have hcn := va_cnB (R := R) (bytes := om_by ci) (maxL := om_ml ci) (ret := om_rt ci) (Ts := om_wg) (ws' := om_wg) (rm := { frames := d + 1, cells := 0 + (h1.1.length - h.1.length), slots := 0 + (om_sz h1 - om_sz h), locals := 40 * (d + 1) }) (om_np ci) C.2.2.2.2.1 (om_gi q1 q2 q3) rfl rfl rfl hnw (C.2.2.2.2.1 _ t4) ⟨t7, t8, t9⟩ ⟨r1, by show 8 + (om_ml ci + 11) + 40 * (d + 1) ≤ R.locals; omega⟩
                  rw [hrv] at hcn
                  rw [hrv] at hMet
                  exact va_runIN (As := as'.map (om_tr ad b)) (b := ad.getD a 0) SF hMet ⟨hcn, t10 s2, C.2.2.2.2.1 _ (t2 s1)⟩ ⟨hpc, hpre⟩ rfl (by simp at s3 ⊢; exact s3) hl.1 (by rw [hstk]; simp [om_tr]) (lv_room hroom) hd ⟨by omega, by omega⟩
