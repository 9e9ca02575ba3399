/-! fields, arrays, new cells -/
theorem om_ce_obj {ad : List Nat} {b : Nat} {dA : Nat → ClassId} {c : Nat × Nat × List om_V} {g : Int → Int} (h : c.1 < 10) : om_ce ad b dA c g = .inr (c.1, c.2.2.map (om_tr ad b)) := by
  unfold om_ce
  rw [if_neg (by omega), if_neg (by omega)]
theorem om_ce_arr {ad : List Nat} {b : Nat} {dA : Nat → ClassId} {c : Nat × Nat × List om_V} {g : Int → Int} (h : 20 ≤ c.1) (h2 : c.1 ≠ 23) : om_ce ad b dA c g = .inl (dA c.1, c.2.1, .inl (fun k => Int32.ofInt (g k))) := by
  unfold om_ce
  rw [if_neg h2, if_pos h]
theorem om_ce_ref {ad : List Nat} {b : Nat} {dA : Nat → ClassId} {n : Nat} {vs : List om_V} {g : Int → Int} : om_ce ad b dA (23, n, vs) g = .inl (dA 23, n, .inr (.inr (.inr (.inr (fun k => om_el ad (vs.getD k om_nu)))))) := by
  unfold om_ce
  rw [if_pos rfl]
theorem om_cl_at {ci : Nat} (h : ci < 10) : om_cl[ci]? = some (om_cn ci, om_fT ci, om_fN ci) := by
  match ci, h with
  | 0, _ => rfl
  | 1, _ => rfl
  | 2, _ => rfl
  | 3, _ => rfl
  | 4, _ => rfl
  | 5, _ => rfl
  | 6, _ => rfl
  | 7, _ => rfl
  | 8, _ => rfl
  | 9, _ => rfl
  | n + 10, h => exact absurd h (by omega)
theorem om_ty_ok {ci : Nat} (h : ci < 10) : ∀ k, k < om_fN ci → parseFieldDescriptor (om_fT ci k).2.2.1 = some (om_ty ci k) := by
  match ci, h with
  | 0, _ => exact om_ty0
  | 1, _ => exact om_ty1
  | 2, _ => exact om_ty2
  | 3, _ => exact om_ty3
  | 4, _ => exact om_ty4
  | 5, _ => exact om_ty5
  | 6, _ => exact om_ty6
  | 7, _ => exact om_ty7
  | 8, _ => exact om_ty8
  | 9, _ => exact om_ty9
  | n + 10, h => exact absurd h (by omega)
theorem om_nm_ok {ci : Nat} (h : ci < 10) : ∀ a, a < om_fN ci → ∀ b, b < om_fN ci → a ≠ b → (om_fT ci a).2.1 ≠ (om_fT ci b).2.1 := by
  match ci, h with
  | 0, _ => exact om_nm0
  | 1, _ => exact om_nm1
  | 2, _ => exact om_nm2
  | 3, _ => exact om_nm3
  | 4, _ => exact om_nm4
  | 5, _ => exact om_nm5
  | 6, _ => exact om_nm6
  | 7, _ => exact om_nm7
  | 8, _ => exact om_nm8
  | 9, _ => exact om_nm9
  | n + 10, h => exact absurd h (by omega)
theorem om_lays {ci : Nat} (h : ci < 10) : (∀ w ∈ u_ws (om_cn ci) (om_fT ci) (om_fN ci), w ∈ om_wg) ∧ Cond.instantiable (om_cn ci) (om_fN ci) ∈ om_wg ∧ Cond.initialized (om_cn ci) ∈ om_wg := by
  have h1 := List.all_eq_true.mp om_lok1 ci (List.mem_range.mpr h)
  unfold om_lck at h1
  rw [Bool.and_eq_true] at h1
  refine ⟨fun w hw => ?_, ?_⟩
  · obtain ⟨k, hk, rfl⟩ := List.mem_map.mp hw
    exact om_wgi (List.all_eq_true.mp h1.1 k hk)
  · have h2 := h1.2
    cases hq : om_nwx.getD ci (0, 0) with
    | mk x y =>
      rw [hq] at h2
      rw [Bool.and_eq_true] at h2
      exact ⟨om_wgi h2.1, om_wgi h2.2⟩
theorem om_fl_ok {own i ci k : Nat} (h : om_fl own i = some (ci, k)) : Cond.fieldLink (om_cn own) i (om_fT ci k).1 (om_fT ci k).2.1 (om_fT ci k).2.2.1 ∈ om_wg ∧ k < om_fN ci ∧ ci < 10 := by
  unfold om_fl at h
  cases hf : om_fls.find? (fun e => e.1 == own && e.2.1 == i) with
  | none => rw [hf] at h; cases h
  | some e =>
    rw [hf] at h
    have hm := List.mem_of_find?_eq_some hf
    have hp := List.find?_some hf
    have h3 := List.all_eq_true.mp om_fok e hm
    obtain ⟨a1, a2, a3, a4, a5⟩ := e
    simp only [Bool.and_eq_true, beq_iff_eq] at hp
    obtain ⟨rfl, rfl⟩ := hp
    simp only [Option.map_some, Option.some.injEq, Prod.mk.injEq] at h
    obtain ⟨rfl, rfl⟩ := h
    simp only [Bool.and_eq_true, decide_eq_true_eq] at h3
    exact ⟨om_wgi h3.1, h3.2.1, h3.2.2⟩
theorem om_ck_ok {own i ci : Nat} (h : om_ck own i = some ci) : Cond.classLink (om_cn own) i (om_cn ci) ∈ om_wg := by
  unfold om_ck at h
  cases hf : om_cls.find? (fun e => e.1 == own && e.2.1 == i) with
  | none => rw [hf] at h; cases h
  | some e =>
    rw [hf] at h
    have hm := List.mem_of_find?_eq_some hf
    have hp := List.find?_some hf
    have h3 := List.all_eq_true.mp om_cok e hm
    obtain ⟨a1, a2, a3, a4⟩ := e
    simp only [Bool.and_eq_true, beq_iff_eq] at hp
    obtain ⟨rfl, rfl⟩ := hp
    simp only [Option.map_some, Option.some.injEq] at h
    subst h
    exact om_wgi h3
def om_kck (ci k : Nat) : Bool := match om_fk ci k, om_ty ci k with
  | 0, .int => true
  | 1, .boolean => true
  | 2, .object _ => true
  | 2, .array _ => true
  | _, _ => false
theorem om_kok : (List.range 10).all (fun ci => (List.range (om_fN ci)).all (fun k => om_kck ci k)) = true := by decide +kernel
theorem om_dok : (List.range 10).all (fun ci => decide ((om_def ci).length = om_fN ci) && (List.range (om_fN ci)).all (fun j => decide (defaultValue (om_ty ci j) = vp_V ((om_def ci).map (om_tr [] 0)) j))) = true := by decide +kernel
theorem om_fit_ok {mi ci k : Nat} {v : om_V} (hc : ci < 10) (hk : k < om_fN ci) (h : om_fit mi ci k v = true) (ad : List Nat) (b : Nat) : narrow (om_ty ci k) (om_tr ad b v) = om_tr ad b v ∧ fits (om_ty ci k) (om_tr ad b v) = true ∧ ((om_fT ci k).2.2.2 = true → om_in mi = true ∧ om_ow mi = ci) := by
  have h1 := List.all_eq_true.mp (List.all_eq_true.mp om_kok ci (List.mem_range.mpr hc)) k (List.mem_range.mpr hk)
  unfold om_fit at h
  rw [Bool.and_eq_true] at h
  have h3 : (om_fT ci k).2.2.2 = true → om_in mi = true ∧ om_ow mi = ci := by
    intro q
    have h2 := h.2
    rw [q] at h2
    simpa using h2
  have h2 := h.1
  unfold om_kck at h1
  split at h1
  · rename_i e1 e2
    rw [e1] at h2
    rw [e2]
    rcases v with z | q
    · exact ⟨rfl, rfl, h3⟩
    · cases h2
  · rename_i e1 e2
    rw [e1] at h2
    rw [e2]
    rcases v with z | q
    · simp only [Bool.or_eq_true, decide_eq_true_eq] at h2
      rcases h2 with rfl | rfl
      · exact ⟨rfl, rfl, h3⟩
      · exact ⟨rfl, rfl, h3⟩
    · cases h2
  · rename_i e1 e2
    rw [e1] at h2
    rw [e2]
    rcases v with z | a | q
    · cases h2
    · exact ⟨rfl, rfl, h3⟩
    · cases h2
  · rename_i e1 e2
    rw [e1] at h2
    rw [e2]
    rcases v with z | a | q
    · cases h2
    · exact ⟨rfl, rfl, h3⟩
    · cases h2
  · cases h1
theorem om_wf_set {h : om_H} (hw : om_wf h) {a : Nat} {c : Nat × Nat × List om_V} (hc : om_okc h.1.length c) : om_wf (h.1.set a c, h.2) := by
  refine ⟨fun q hq => ?_, hw.2.1, fun x hx z => hw.2.2 x (by simpa using hx) z⟩
  rw [List.length_set]
  rcases List.mem_or_eq_of_mem_set hq with q1 | rfl
  · exact hw.1 q q1
  · exact hc
theorem om_wf_u {h : om_H} (hw : om_wf h) {a : Nat} (ha : a < h.1.length) {f : Int → Int} (hf : ∀ z, om_Z (f z)) : om_wf (h.1, om_u h.2 a f) := by
  refine ⟨hw.1, fun x z => ?_, fun x hx z => ?_⟩
  · show om_Z (om_u h.2 a f x z)
    unfold om_u
    split
    · exact hf z
    · exact hw.2.1 x z
  · show om_u h.2 a f x z = 0
    have hx : h.1.length ≤ x := hx
    unfold om_u
    rw [if_neg (by omega)]
    exact hw.2.2 x hx z
theorem om_wf_push {h : om_H} (hw : om_wf h) {c : Nat × Nat × List om_V} (hc : om_okc h.1.length c) : om_wf (h.1 ++ [c], h.2) := by
  refine ⟨fun q hq => ?_, hw.2.1, fun x hx z => hw.2.2 x (by simp at hx; omega) z⟩
  rcases List.mem_append.mp hq with q1 | q1
  · exact fun v hv => om_ok_le (by simp) (hw.1 q q1 v hv)
  · rw [List.mem_singleton.mp q1]
    exact fun v hv => om_ok_le (by simp) (hc v hv)
theorem om_p_z {f : Int → Int} (hf : ∀ z, om_Z (f z)) {x v : Int} (hv : om_Z v) : ∀ z, om_Z (om_p f x v z) := by
  intro z
  unfold om_p
  split
  · exact hv
  · exact hf z
theorem om_upd_p {g : Int → Int} {z v : Int} (hz : om_Z z) (h0 : 0 ≤ z) : upd (fun k : Nat => Int32.ofInt (g k)) (Int32.ofInt z).toNatClampNeg (Int32.ofInt v) = fun k : Nat => Int32.ofInt (om_p g z v k) := by
  funext k
  rw [om_cn' hz]
  unfold upd om_p
  by_cases hk : k = z.toNat
  · subst hk
    rw [if_pos rfl, if_pos (by omega)]
  · rw [if_neg hk, if_neg (by omega)]
section om_hp
variable {p : Program} {l : Launch} {e : Env} {R : Room} {s : State} {m : MethodId} {args : Array Value} {below : List Frame} {meth : Method} {c : Code} {Q : State → Prop} {mi : Nat} {D : va_G} {dA : Nat → ClassId} {b bs : Nat} {sc : Int × (Int → Int)} {ad0 : List Nat} {cells slots pc : Nat} {L st : List om_V} {h : om_H}
theorem om_g_getf (C : om_Cx p s m args meth c mi D dA b bs sc) {i ci k a n : Nat} {vs : List om_V} {v : om_V} (hd : decode (om_by mi) pc = .ok (.getfield i, 3)) (hf : om_fl (om_ow mi) i = some (ci, k)) (ha : h.1[a]? = some (ci, n, vs)) (hv : vs[k]? = some v) (kk : (om_Gd p l e R s m args below meth c Q mi D dA b bs ad0 (pc + 3) (L) (v :: st) (h) (cells) (slots))) : (om_Gd p l e R s m args below meth c Q mi D dA b bs ad0 (pc) (L) (.inr (.inl a) :: st) (h) (cells) (slots)) := by
  intro ad H locs ls h0 hRe hS hl hn hL hst
  obtain ⟨hx, hb, hml, hown, hts, hr, hlk, hin, hKx⟩ := C
  obtain ⟨f1, f2, f3⟩ := om_fl_ok hf
  have hat := om_ws_at (ad := ad) (b := b) (dA := dA) ha
  rw [om_ce_obj (show (ci, n, vs).1 < 10 from f3)] at hat
  have hvo : om_ok h.1.length v := hRe.2.1.1 _ (List.mem_of_getElem? ha) v (List.mem_of_getElem? hv)
  exact va_get (v := om_tr ad b v) (C := om_cn ci) (T := om_fT ci) (N := om_fN ci) hx hb hts (om_lays f3).1 hown hKx.1 hRe.2.2.1 a hat (om_cl_at f3) k f2 (hts _ f1) (fun _ q => q) (by simp [hv]) hd (kk ad H locs ls h0 hRe hS hl hn hL (List.forall_mem_cons.mpr ⟨hvo, (List.forall_mem_cons.mp hst).2⟩))
theorem om_g_putf (C : om_Cx p s m args meth c mi D dA b bs sc) {i ci k a n : Nat} {vs : List om_V} {v : om_V} (hd : decode (om_by mi) pc = .ok (.putfield i, 3)) (hf : om_fl (om_ow mi) i = some (ci, k)) (ha : h.1[a]? = some (ci, n, vs)) (hk : k < vs.length) (hfit : om_fit mi ci k v = true) (kk : (om_Gd p l e R s m args below meth c Q mi D dA b bs ad0 (pc + 3) (L) (st) ((h.1.set a (ci, n, vs.set k v), h.2)) (cells) (slots))) : (om_Gd p l e R s m args below meth c Q mi D dA b bs ad0 (pc) (L) (v :: .inr (.inl a) :: st) (h) (cells) (slots)) := by
  intro ad H locs ls h0 hRe hS hl hn hL hst
  obtain ⟨hx, hb, hml, hown, hts, hr, hlk, hin, hKx⟩ := C
  obtain ⟨f1, f2, f3⟩ := om_fl_ok hf
  obtain ⟨g1, g2, g3⟩ := om_fit_ok f3 f2 hfit ad b
  have hat := om_ws_at (ad := ad) (b := b) (dA := dA) ha
  rw [om_ce_obj (show (ci, n, vs).1 < 10 from f3)] at hat
  obtain ⟨hvo, hst⟩ := List.forall_mem_cons.mp hst
  have hst := (List.forall_mem_cons.mp hst).2
  have hwf : om_wf (h.1.set a (ci, n, vs.set k v), h.2) := om_wf_set hRe.2.1 (fun w hw => by
    rcases List.mem_or_eq_of_mem_set hw with q | rfl
    · exact hRe.2.1.1 _ (List.mem_of_getElem? ha) w q
    · exact hvo)
  have hws : (om_ws ad b dA h).set a (ad.getD a 0, .inr (ci, (vs.map (om_tr ad b)).set k (om_tr ad b v))) = om_ws ad b dA (h.1.set a (ci, n, vs.set k v), h.2) := by
    rw [← om_ws_setO, om_ce_obj (show (ci, n, vs.set k v).1 < 10 from f3), List.map_set]
  have go : ∀ (H1 : Heap) (locs1 : List Loc), va_P D om_cl ((om_ws ad b dA h).set a (ad.getD a 0, .inr (ci, (vs.map (om_tr ad b)).set k (om_tr ad b v)))) H1 → va_D (fun q => bs ≤ q) ((om_ws ad b dA h).set a (ad.getD a 0, .inr (ci, (vs.map (om_tr ad b)).set k (om_tr ad b v)))) → va_S (fun q => bs ≤ q) s.heap H1 locs1 → W p l e R s m args below meth c H1 locs1 cells slots Q (F0 m (pc + 3) ls (st.map (om_tr ad b))) := by
    intro H1 locs1 hP1 hD1 hS1
    rw [hws] at hP1 hD1
    exact kk ad H1 locs1 ls h0 ⟨by rw [List.length_set]; exact hRe.1, hwf, hP1, hD1⟩ hS1 hl hn (by rw [List.length_set]; exact hL) (by rw [List.length_set]; exact hst)
  cases hfin : (om_fT ci k).2.2.2 with
  | false => exact va_put (C := om_cn ci) (T := om_fT ci) (N := om_fN ci) (ty := om_ty ci k) hx hb hts (om_lays f3).1 (om_ty ci) (om_ty_ok f3) (om_nm_ok f3) hown hKx.1 hRe.2.2.1 hRe.2.2.2 hS a hat (om_cl_at f3) k f2 (hts _ f1) (fun _ q => q) hfin (om_ty_ok f3 k f2) g1 g2 (by simpa using hk) hd go
  | true =>
    obtain ⟨q1, q2⟩ := g3 hfin
    have hdecl : (om_fT ci k).1 = om_cn (om_ow mi) := by
      rw [q2]
      have := List.all_eq_true.mp (show (List.range 10).all (fun ci => (List.range (om_fN ci)).all (fun k => decide ((om_fT ci k).1 = om_cn ci))) = true by decide +kernel) ci (List.mem_range.mpr f3)
      exact of_decide_eq_true (List.all_eq_true.mp this k (List.mem_range.mpr f2))
    exact va_putF (C := om_cn ci) (T := om_fT ci) (N := om_fN ci) (ty := om_ty ci k) hx hb hts (om_lays f3).1 (om_ty ci) (om_ty_ok f3) (om_nm_ok f3) hown hKx.1 hRe.2.2.1 hRe.2.2.2 hS a hat (om_cl_at f3) k f2 (hts _ f1) (fun _ q => q) hfin (hin q1) hdecl (om_ty_ok f3 k f2) g1 g2 (by simpa using hk) hd go
theorem om_at_arr {ad : List Nat} {a k n : Nat} {vs : List om_V} (h1 : 20 ≤ k) (h2 : k ≠ 23) (ha : h.1[a]? = some (k, n, vs)) : (om_ws ad b dA h)[a]? = some (ad.getD a 0, .inl (dA k, n, .inl (fun j : Nat => Int32.ofInt (h.2 a j)))) := by
  have hat := om_ws_at (ad := ad) (b := b) (dA := dA) ha
  rwa [om_ce_arr (show 20 ≤ (k, n, vs).1 from h1) h2] at hat
theorem om_g_ial (C : om_Cx p s m args meth c mi D dA b bs sc) {a n : Nat} {z : Int} {vs : List om_V} (hd : decode (om_by mi) pc = .ok (.iaload, 1)) (ha : h.1[a]? = some (20, n, vs)) (hz : 0 ≤ z ∧ z < n) (kk : (om_Gd p l e R s m args below meth c Q mi D dA b bs ad0 (pc + 1) (L) (.inl (h.2 a z) :: st) (h) (cells) (slots))) : (om_Gd p l e R s m args below meth c Q mi D dA b bs ad0 (pc) (L) (.inl z :: .inr (.inl a) :: st) (h) (cells) (slots)) := by
  intro ad H locs ls h0 hRe hS hl hn hL hst
  obtain ⟨zz, hst⟩ := List.forall_mem_cons.mp hst
  have hst := (List.forall_mem_cons.mp hst).2
  have k := kk ad H locs ls h0 hRe hS hl hn hL (List.forall_mem_cons.mpr ⟨hRe.2.1.2.1 a z, hst⟩)
  refine va_iald C.1 C.2.1 C.2.2.2.2.2.2.2.2.1 hRe.2.2.1 a 0 (om_at_arr (by omega) (by omega) ha) rfl (om_vin zz hz.1 hz.2) hd ?_
  rw [om_cn' zz, Int.toNat_of_nonneg hz.1]
  exact k
theorem om_g_cal (C : om_Cx p s m args meth c mi D dA b bs sc) {a n : Nat} {z : Int} {vs : List om_V} (hd : decode (om_by mi) pc = .ok (.caload, 1)) (ha : h.1[a]? = some (21, n, vs)) (hz : 0 ≤ z ∧ z < n) (kk : (om_Gd p l e R s m args below meth c Q mi D dA b bs ad0 (pc + 1) (L) (.inl (h.2 a z) :: st) (h) (cells) (slots))) : (om_Gd p l e R s m args below meth c Q mi D dA b bs ad0 (pc) (L) (.inl z :: .inr (.inl a) :: st) (h) (cells) (slots)) := by
  intro ad H locs ls h0 hRe hS hl hn hL hst
  obtain ⟨zz, hst⟩ := List.forall_mem_cons.mp hst
  have hst := (List.forall_mem_cons.mp hst).2
  have k := kk ad H locs ls h0 hRe hS hl hn hL (List.forall_mem_cons.mpr ⟨hRe.2.1.2.1 a z, hst⟩)
  refine va_cald C.1 C.2.1 C.2.2.2.2.2.2.2.2.1 hRe.2.2.1 a 1 (om_at_arr (by omega) (by omega) ha) rfl (om_vin zz hz.1 hz.2) hd ?_
  rw [om_cn' zz, Int.toNat_of_nonneg hz.1]
  exact k
theorem om_g_bal (C : om_Cx p s m args meth c mi D dA b bs sc) {a n : Nat} {z : Int} {vs : List om_V} (hd : decode (om_by mi) pc = .ok (.baload, 1)) (ha : h.1[a]? = some (22, n, vs)) (hz : 0 ≤ z ∧ z < n) (kk : (om_Gd p l e R s m args below meth c Q mi D dA b bs ad0 (pc + 1) (L) (.inl (h.2 a z) :: st) (h) (cells) (slots))) : (om_Gd p l e R s m args below meth c Q mi D dA b bs ad0 (pc) (L) (.inl z :: .inr (.inl a) :: st) (h) (cells) (slots)) := by
  intro ad H locs ls h0 hRe hS hl hn hL hst
  obtain ⟨zz, hst⟩ := List.forall_mem_cons.mp hst
  have hst := (List.forall_mem_cons.mp hst).2
  have k := kk ad H locs ls h0 hRe hS hl hn hL (List.forall_mem_cons.mpr ⟨hRe.2.1.2.1 a z, hst⟩)
  refine va_zald C.1 C.2.1 C.2.2.2.2.2.2.2.2.1 hRe.2.2.1 a 2 (om_at_arr (by omega) (by omega) ha) rfl (om_vin zz hz.1 hz.2) hd ?_
  rw [om_cn' zz, Int.toNat_of_nonneg hz.1]
  exact k
/-- behind a store into an array of numbers -/
theorem om_st_go {ad : List Nat} {ls : Array Slot} {H : Heap} {a k n : Nat} {z x : Int} {vs : List om_V} (pc' : Nat) (h1 : 20 ≤ k) (h2 : k ≠ 23) (ha : h.1[a]? = some (k, n, vs)) (zz : om_Z z) (zx : om_Z x) (hz : 0 ≤ z) (h0 : ad0 <+: ad) (hRe : om_Re D dA (fun q => bs ≤ q) b ad h H) (hl : lv_has ls (om_ml mi) (om_lv ad b L)) (hn : L.length = om_ml mi) (hL : ∀ v ∈ L, v = om_un ∨ om_ok h.1.length v) (hst : ∀ v ∈ st, om_ok h.1.length v) (kk : (om_Gd p l e R s m args below meth c Q mi D dA b bs ad0 (pc') (L) (st) ((h.1, om_u h.2 a (om_p (h.2 a) z x))) (cells) (slots))) {y : Int32} (hy : y = Int32.ofInt x) : ∀ (H1 : Heap) (locs1 : List Loc), va_P D om_cl ((om_ws ad b dA h).set a (ad.getD a 0, .inl (dA k, n, .inl (upd (fun j : Nat => Int32.ofInt (h.2 a j)) (Int32.ofInt z).toNatClampNeg y)))) H1 → va_D (fun q => bs ≤ q) ((om_ws ad b dA h).set a (ad.getD a 0, .inl (dA k, n, .inl (upd (fun j : Nat => Int32.ofInt (h.2 a j)) (Int32.ofInt z).toNatClampNeg y)))) → va_S (fun q => bs ≤ q) s.heap H1 locs1 → W p l e R s m args below meth c H1 locs1 cells slots Q (F0 m pc' ls (st.map (om_tr ad b))) := by
  intro H1 locs1 hP1 hD1 hS1
  have hws : (om_ws ad b dA h).set a (ad.getD a 0, .inl (dA k, n, .inl (upd (fun j : Nat => Int32.ofInt (h.2 a j)) (Int32.ofInt z).toNatClampNeg y))) = om_ws ad b dA (h.1, om_u h.2 a (om_p (h.2 a) z x)) := by
    rw [← om_ws_setI ha, om_ce_arr (show 20 ≤ (k, n, vs).1 from h1) h2, hy, om_upd_p zz hz]
  rw [hws] at hP1 hD1
  exact kk ad H1 locs1 ls h0 ⟨hRe.1, om_wf_u hRe.2.1 (List.getElem?_eq_some_iff.mp ha).1 (om_p_z (hRe.2.1.2.1 a) zx), hP1, hD1⟩ hS1 hl hn hL hst
theorem om_g_ias (C : om_Cx p s m args meth c mi D dA b bs sc) {a n : Nat} {z x : Int} {vs : List om_V} (hd : decode (om_by mi) pc = .ok (.iastore, 1)) (ha : h.1[a]? = some (20, n, vs)) (hz : 0 ≤ z ∧ z < n) (kk : (om_Gd p l e R s m args below meth c Q mi D dA b bs ad0 (pc + 1) (L) (st) ((h.1, om_u h.2 a (om_p (h.2 a) z x))) (cells) (slots))) : (om_Gd p l e R s m args below meth c Q mi D dA b bs ad0 (pc) (L) (.inl x :: .inl z :: .inr (.inl a) :: st) (h) (cells) (slots)) := by
  intro ad H locs ls h0 hRe hS hl hn hL hst
  obtain ⟨zx, hst⟩ := List.forall_mem_cons.mp hst
  obtain ⟨zz, hst⟩ := List.forall_mem_cons.mp hst
  have hst := (List.forall_mem_cons.mp hst).2
  exact va_iast C.1 C.2.1 C.2.2.2.2.2.2.2.2.1 hRe.2.2.1 hRe.2.2.2 hS a 0 (om_at_arr (by omega) (by omega) ha) rfl (om_vin zz hz.1 hz.2) hd (om_st_go (pc + 1) (by omega) (by omega) ha zz zx hz.1 h0 hRe hl hn hL hst kk rfl)
theorem om_nar_c {x : Int} (h0 : 0 ≤ x) (h1 : x ≤ 65535) : vp_nar .char (Int32.ofInt x) = Int32.ofInt x := by
  have h2 := (pk_charN (q := x.toNat) (by omega)).1
  have e1 : nI x.toNat = Int32.ofInt x := by
    show Int32.ofNat _ = _
    rw [om_nn, Int.toNat_of_nonneg h0]
  rw [e1] at h2
  unfold vp_nar
  rw [h2]
theorem om_g_cas (C : om_Cx p s m args meth c mi D dA b bs sc) {a n : Nat} {z x : Int} {vs : List om_V} (hd : decode (om_by mi) pc = .ok (.castore, 1)) (ha : h.1[a]? = some (21, n, vs)) (hz : 0 ≤ z ∧ z < n) (hx : 0 ≤ x ∧ x ≤ 65535) (kk : (om_Gd p l e R s m args below meth c Q mi D dA b bs ad0 (pc + 1) (L) (st) ((h.1, om_u h.2 a (om_p (h.2 a) z x))) (cells) (slots))) : (om_Gd p l e R s m args below meth c Q mi D dA b bs ad0 (pc) (L) (.inl x :: .inl z :: .inr (.inl a) :: st) (h) (cells) (slots)) := by
  intro ad H locs ls h0 hRe hS hl hn hL hst
  obtain ⟨zx, hst⟩ := List.forall_mem_cons.mp hst
  obtain ⟨zz, hst⟩ := List.forall_mem_cons.mp hst
  have hst := (List.forall_mem_cons.mp hst).2
  exact va_cast C.1 C.2.1 C.2.2.2.2.2.2.2.2.1 hRe.2.2.1 hRe.2.2.2 hS a 1 (om_at_arr (by omega) (by omega) ha) rfl (om_vin zz hz.1 hz.2) hd (om_st_go (pc + 1) (by omega) (by omega) ha zz zx hz.1 h0 hRe hl hn hL hst kk (om_nar_c hx.1 hx.2))
theorem om_g_bas (C : om_Cx p s m args meth c mi D dA b bs sc) {a n : Nat} {z x : Int} {vs : List om_V} (hd : decode (om_by mi) pc = .ok (.bastore, 1)) (ha : h.1[a]? = some (22, n, vs)) (hz : 0 ≤ z ∧ z < n) (hx : x = 0 ∨ x = 1) (kk : (om_Gd p l e R s m args below meth c Q mi D dA b bs ad0 (pc + 1) (L) (st) ((h.1, om_u h.2 a (om_p (h.2 a) z x))) (cells) (slots))) : (om_Gd p l e R s m args below meth c Q mi D dA b bs ad0 (pc) (L) (.inl x :: .inl z :: .inr (.inl a) :: st) (h) (cells) (slots)) := by
  intro ad H locs ls h0 hRe hS hl hn hL hst
  obtain ⟨zx, hst⟩ := List.forall_mem_cons.mp hst
  obtain ⟨zz, hst⟩ := List.forall_mem_cons.mp hst
  have hst := (List.forall_mem_cons.mp hst).2
  exact va_zast C.1 C.2.1 C.2.2.2.2.2.2.2.2.1 hRe.2.2.1 hRe.2.2.2 hS a 2 (om_at_arr (by omega) (by omega) ha) rfl (om_vin zz hz.1 hz.2) hd (om_st_go (pc + 1) (by omega) (by omega) ha zz zx hz.1 h0 hRe hl hn hL hst kk (by rcases hx with rfl | rfl <;> rfl))
theorem om_g_aal (C : om_Cx p s m args meth c mi D dA b bs sc) {a n r : Nat} {z : Int} {vs : List om_V} (hd : decode (om_by mi) pc = .ok (.aaload, 1)) (ha : h.1[a]? = some (23, n, vs)) (hz : 0 ≤ z ∧ z < n) (hv : vs[z.toNat]? = some (.inr (.inl r))) (kk : (om_Gd p l e R s m args below meth c Q mi D dA b bs ad0 (pc + 1) (L) (.inr (.inl r) :: st) (h) (cells) (slots))) : (om_Gd p l e R s m args below meth c Q mi D dA b bs ad0 (pc) (L) (.inl z :: .inr (.inl a) :: st) (h) (cells) (slots)) := by
  intro ad H locs ls h0 hRe hS hl hn hL hst
  obtain ⟨zz, hst⟩ := List.forall_mem_cons.mp hst
  have hst := (List.forall_mem_cons.mp hst).2
  have hvo : om_ok h.1.length (.inr (.inl r)) := hRe.2.1.1 _ (List.mem_of_getElem? ha) _ (List.mem_of_getElem? hv)
  have k := kk ad H locs ls h0 hRe hS hl hn hL (List.forall_mem_cons.mpr ⟨hvo, hst⟩)
  have hat := om_ws_at (ad := ad) (b := b) (dA := dA) ha
  rw [om_ce_ref] at hat
  refine va_aldq (C := "OreSolver$Operator") C.1 C.2.1 C.2.2.2.2.2.2.2.2.1 hRe.2.2.1 a 3 hat rfl (om_vin zz hz.1 hz.2) hd ?_
  rw [om_cn' zz, List.getD, hv]
  exact k
theorem om_g_aas (C : om_Cx p s m args meth c mi D dA b bs sc) {a n r nr : Nat} {z : Int} {vs vr : List om_V} (hd : decode (om_by mi) pc = .ok (.aastore, 1)) (ha : h.1[a]? = some (23, n, vs)) (hr : h.1[r]? = some (5, nr, vr)) (hz : 0 ≤ z ∧ z < n) (hv : z.toNat < vs.length) (kk : (om_Gd p l e R s m args below meth c Q mi D dA b bs ad0 (pc + 1) (L) (st) ((h.1.set a (23, n, vs.set z.toNat (.inr (.inl r))), h.2)) (cells) (slots))) : (om_Gd p l e R s m args below meth c Q mi D dA b bs ad0 (pc) (L) (.inr (.inl r) :: .inl z :: .inr (.inl a) :: st) (h) (cells) (slots)) := by
  intro ad H locs ls h0 hRe hS hl hn hL hst
  obtain ⟨zr, hst⟩ := List.forall_mem_cons.mp hst
  obtain ⟨zz, hst⟩ := List.forall_mem_cons.mp hst
  have hst := (List.forall_mem_cons.mp hst).2
  have hat := om_ws_at (ad := ad) (b := b) (dA := dA) ha
  rw [om_ce_ref] at hat
  have hrt := om_ws_at (ad := ad) (b := b) (dA := dA) hr
  rw [om_ce_obj (show (5, nr, vr).1 < 10 from Nat.le_of_ble_eq_true rfl)] at hrt
  have hwf : om_wf (h.1.set a (23, n, vs.set z.toNat (.inr (.inl r))), h.2) := om_wf_set hRe.2.1 (fun w hw => by
    rcases List.mem_or_eq_of_mem_set hw with q | rfl
    · exact hRe.2.1.1 _ (List.mem_of_getElem? ha) w q
    · exact zr)
  refine va_astq C.1 C.2.1 C.2.2.2.2.2.2.2.2.1 hRe.2.2.1 hRe.2.2.2 hS a 3 r 5 hat rfl hrt (om_cl_at (ci := 5) (by decide)) (om_vin zz hz.1 hz.2) hd ?_
  intro H1 locs1 hP1 hD1 hS1
  have hws : (om_ws ad b dA h).set a (ad.getD a 0, .inl (dA 23, n, .inr (.inr (.inr (.inr (va_up (fun k => om_el ad (vs.getD k om_nu)) (Int32.ofInt z).toNatClampNeg (some (ad.getD r 0)))))))) = om_ws ad b dA (h.1.set a (23, n, vs.set z.toNat (.inr (.inl r))), h.2) := by
    rw [← om_ws_setO, om_ce_ref]
    have e1 : va_up (fun k => om_el ad (vs.getD k om_nu)) (Int32.ofInt z).toNatClampNeg (some (ad.getD r 0)) = fun k => om_el ad ((vs.set z.toNat (.inr (.inl r))).getD k om_nu) := by
      funext k
      rw [om_cn' zz]
      unfold va_up
      by_cases hk : k = z.toNat
      · subst hk
        have e2 : (vs.set z.toNat (.inr (.inl r))).getD z.toNat om_nu = .inr (.inl r) := by simp [List.getD, hv]
        rw [if_pos rfl, e2]
        rfl
      · have e2 : (vs.set z.toNat (.inr (.inl r))).getD k om_nu = vs.getD k om_nu := by
          have hk2 : ¬ z.toNat = k := fun q => hk q.symm
          simp only [List.getD, List.getElem?_set, if_neg hk2]
        rw [if_neg hk, e2]
    rw [e1]
  rw [hws] at hP1 hD1
  exact kk ad H1 locs1 ls h0 ⟨by rw [List.length_set]; exact hRe.1, hwf, hP1, hD1⟩ hS1 hl hn (by rw [List.length_set]; exact hL) (by rw [List.length_set]; exact hst)
theorem om_g_sld (C : om_Cx p s m args meth c mi D dA b bs sc) {z : Int} (hd : decode (om_by mi) pc = .ok (.iaload, 1)) (hz : 0 ≤ z ∧ z < sc.1) (kk : (om_Gd p l e R s m args below meth c Q mi D dA b bs ad0 (pc + 1) (L) (.inl (sc.2 z) :: st) (h) (cells) (slots))) : (om_Gd p l e R s m args below meth c Q mi D dA b bs ad0 (pc) (L) (.inl z :: .inr (.inr 2) :: st) (h) (cells) (slots)) := by
  intro ad H locs ls h0 hRe hS hl hn hL hst
  obtain ⟨zz, hst⟩ := List.forall_mem_cons.mp hst
  have hst := (List.forall_mem_cons.mp hst).2
  obtain ⟨hK, ⟨n, xs, hnn, hX, rfl⟩, hb1, hb2, -, -⟩ := C.2.2.2.2.2.2.2.2
  have k := kk ad H locs ls h0 hRe hS hl hn hL (List.forall_mem_cons.mpr ⟨om_zi _, hst⟩)
  refine va_sld C.1 C.2.1 hX (by omega) (show ¬ bs ≤ b by omega) hS (om_vin zz hz.1 hz.2) hd ?_
  rw [om_cn' zz]
  have e1 : om_tr ad b (.inl ((om_scr n xs).2 z)) = .int (xs z.toNat) := by
    show Value.int (Int32.ofInt (xs z.toNat).toInt) = _
    rw [om_oi]
  rw [List.map_cons, e1] at k
  exact k
theorem om_g_slen (C : om_Cx p s m args meth c mi D dA b bs sc) (hd : decode (om_by mi) pc = .ok (.arraylength, 1)) (hz : om_Z sc.1) (kk : (om_Gd p l e R s m args below meth c Q mi D dA b bs ad0 (pc + 1) (L) (.inl sc.1 :: st) (h) (cells) (slots))) : (om_Gd p l e R s m args below meth c Q mi D dA b bs ad0 (pc) (L) (.inr (.inr 2) :: st) (h) (cells) (slots)) := by
  intro ad H locs ls h0 hRe hS hl hn hL hst
  have hst := (List.forall_mem_cons.mp hst).2
  obtain ⟨hK, ⟨n, xs, hnn, hX, rfl⟩, hb1, hb2, -, -⟩ := C.2.2.2.2.2.2.2.2
  have k := kk ad H locs ls h0 hRe hS hl hn hL (List.forall_mem_cons.mpr ⟨hz, hst⟩)
  refine va_slen C.1 C.2.1 hX (by omega) (show ¬ bs ≤ b by omega) hS hd ?_
  rw [om_nn]
  exact k
theorem om_g_alen (C : om_Cx p s m args meth c mi D dA b bs sc) {a kd n : Nat} {vs : List om_V} (hd : decode (om_by mi) pc = .ok (.arraylength, 1)) (ha : h.1[a]? = some (kd, n, vs)) (hkd : 20 ≤ kd ∧ kd ≤ 23) (hz : om_Z n) (kk : (om_Gd p l e R s m args below meth c Q mi D dA b bs ad0 (pc + 1) (L) (.inl (n : Int) :: st) (h) (cells) (slots))) : (om_Gd p l e R s m args below meth c Q mi D dA b bs ad0 (pc) (L) (.inr (.inl a) :: st) (h) (cells) (slots)) := by
  intro ad H locs ls h0 hRe hS hl hn hL hst
  have hst := (List.forall_mem_cons.mp hst).2
  have k := kk ad H locs ls h0 hRe hS hl hn hL (List.forall_mem_cons.mpr ⟨hz, hst⟩)
  by_cases h3 : kd = 23
  · subst h3
    have hat := om_ws_at (ad := ad) (b := b) (dA := dA) ha
    rw [om_ce_ref] at hat
    exact va_alen C.1 C.2.1 C.2.2.2.2.2.2.2.2.1 hRe.2.2.1 a 3 hat rfl om_nn hd k
  · have hat := om_at_arr (ad := ad) (b := b) (dA := dA) hkd.1 h3 ha
    rcases (show kd = 20 ∨ kd = 21 ∨ kd = 22 by omega) with rfl | rfl | rfl
    · exact va_alen C.1 C.2.1 C.2.2.2.2.2.2.2.2.1 hRe.2.2.1 a 0 hat rfl om_nn hd k
    · exact va_alen C.1 C.2.1 C.2.2.2.2.2.2.2.2.1 hRe.2.2.1 a 1 hat rfl om_nn hd k
    · exact va_alen C.1 C.2.1 C.2.2.2.2.2.2.2.2.1 hRe.2.2.1 a 2 hat rfl om_nn hd k
end om_hp
