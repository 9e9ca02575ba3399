/-! one instruction of the small machine is one of the machine -/
def om_lv (ad : List Nat) (b : Nat) (L : List om_V) : List (Nat × Value) := (L.zipIdx.filter (fun q => decide (q.1 ≠ om_un))).map (fun q => (q.2, om_tr ad b q.1))
theorem om_lv_mem {ad : List Nat} {b : Nat} {L : List om_V} {q : Nat × Value} : q ∈ om_lv ad b L ↔ ∃ v, L[q.1]? = some v ∧ v ≠ om_un ∧ q.2 = om_tr ad b v := by
  unfold om_lv
  rw [List.mem_map]
  constructor
  · rintro ⟨⟨v, i⟩, hm, rfl⟩
    rw [List.mem_filter] at hm
    have h1 := List.mem_zipIdx_iff_getElem?.mp hm.1
    exact ⟨v, h1, of_decide_eq_true hm.2, rfl⟩
  · rintro ⟨v, h1, h2, h3⟩
    refine ⟨(v, q.1), List.mem_filter.mpr ⟨List.mem_zipIdx_iff_getElem?.mpr h1, decide_eq_true h2⟩, ?_⟩
    rw [← h3]
theorem om_lv_at {ad : List Nat} {b n : Nat} {L : List om_V} {ls : Array Slot} (hl : lv_has ls n (om_lv ad b L)) {i : Nat} {v : om_V} (h : L[i]? = some v) (hv : v ≠ om_un) : ls[i]? = some (.val (om_tr ad b v)) :=
  hl.2.2 (i, om_tr ad b v) (om_lv_mem.mpr ⟨v, h, hv, rfl⟩)
theorem om_lv_set {ad : List Nat} {b n : Nat} {L : List om_V} {ls : Array Slot} {i : Nat} {v : om_V} (h : lv_has ls n ((i, om_tr ad b v) :: (om_lv ad b L).filter (fun q => !(q.1 == i) && !(q.1 + 1 == i && q.2.category == 2)))) : lv_has ls n (om_lv ad b (L.set i v)) := by
  refine ⟨h.1, h.2.1, fun q hq => ?_⟩
  obtain ⟨w, h1, h2, h3⟩ := om_lv_mem.mp hq
  rw [List.getElem?_set] at h1
  apply h.2.2
  by_cases hj : i = q.1
  · rw [if_pos hj] at h1
    split at h1
    · obtain rfl := Option.some.inj h1
      obtain ⟨q1, q2⟩ := q
      dsimp only at hj h3
      subst hj; subst h3
      exact List.mem_cons_self
    · cases h1
  · rw [if_neg hj] at h1
    refine List.mem_cons_of_mem _ (List.mem_filter.mpr ⟨om_lv_mem.mpr ⟨w, h1, h2, h3⟩, ?_⟩)
    have hj' : ¬ q.1 = i := fun e => hj e.symm
    rw [h3, om_cat]
    simp [hj']
theorem om_lv_pre {ad ad' : List Nat} {b n : Nat} {L : List om_V} {ls : Array Slot} (hp : ad <+: ad') (hL : ∀ v ∈ L, v = om_un ∨ om_ok ad.length v) (h : lv_has ls n (om_lv ad b L)) : lv_has ls n (om_lv ad' b L) := by
  refine ⟨h.1, h.2.1, fun q hq => ?_⟩
  obtain ⟨w, h1, h2, h3⟩ := om_lv_mem.mp hq
  have hw := (hL w (List.mem_of_getElem? h1)).resolve_left h2
  exact h.2.2 q (om_lv_mem.mpr ⟨w, h1, h2, by rw [h3, om_tr_pre hp hw]⟩)
def om_tys (dA : Nat → ClassId) : List (ClassId × FieldType) := [(dA 20, .int), (dA 21, .char), (dA 22, .boolean), (dA 23, .object "OreSolver$Operator")]
def om_scr (n : Nat) (xs : Nat → Int32) : Int × (Int → Int) := ((n : Int), fun z => (xs z.toNat).toInt)
def om_nw : Cond := .methodLinkNest "OreSolver" 17 ⟨"OreSolver$Output", "<init>", "()V"⟩ "OreSolver"
/-- what a state tells of the tables and of the script -/
def om_Kx (D : va_G) (dA : Nat → ClassId) (b bs : Nat) (sc : Int × (Int → Int)) (U : State) : Prop :=
  va_K D om_cl (om_tys dA) U ∧ (∃ (n : Nat) (xs : Nat → Int32), n < 2147483648 ∧ va_X b n xs U U.heap ∧ sc = om_scr n xs) ∧ b < bs ∧ bs ≤ U.heap.size ∧ va_AO "OreSolver$Operator" U ∧ va_Nw om_nw U
def om_Cx (p : Program) (s : State) (m : MethodId) (args : Array Value) (meth : Method) (c : Code) (mi : Nat) (D : va_G) (dA : Nat → ClassId) (b bs : Nat) (sc : Int × (Int → Int)) : Prop :=
  p.tables.exec = Jvm.exec ∧ c.code = om_by mi ∧ c.maxLocals = om_ml mi ∧ s.vm.findClass (om_cn (om_ow mi)) = some m.cls ∧ (∀ w ∈ om_wg, w.before args s = true) ∧ meth.sig.returnType = om_rt mi ∧ meth.locks = false ∧ (om_in mi = true → meth.name = "<init>") ∧ om_Kx D dA b bs sc s
def om_Gd (p : Program) (l : Launch) (e : Env) (R : Room) (s : State) (m : MethodId) (args : Array Value) (below : List Frame) (meth : Method) (c : Code) (Q : State → Prop) (mi : Nat) (D : va_G) (dA : Nat → ClassId) (b bs : Nat) (ad0 : List Nat) (pc : Nat) (L st : List om_V) (h : om_H) (cells slots : Nat) : Prop :=
  ∀ (ad : List Nat) (H : Heap) (locs : List Loc) (ls : Array Slot), ad0 <+: ad → om_Re D dA (fun q => bs ≤ q) b ad h H → va_S (fun q => bs ≤ q) s.heap H locs → lv_has ls (om_ml mi) (om_lv ad b L) → L.length = om_ml mi → (∀ v ∈ L, v = om_un ∨ om_ok h.1.length v) → (∀ v ∈ st, om_ok h.1.length v) →
    W p l e R s m args below meth c H locs cells slots Q (F0 m pc ls (st.map (om_tr ad b)))
theorem om_set_ok {n : Nat} {L : List om_V} (h : ∀ v ∈ L, v = om_un ∨ om_ok n v) {i : Nat} {w : om_V} (hw : om_ok n w) : ∀ v ∈ L.set i w, v = om_un ∨ om_ok n v := by
  intro v hv
  rcases List.mem_or_eq_of_mem_set hv with q | rfl
  · exact h v q
  · exact Or.inr hw
section om_ins
variable {p : Program} {l : Launch} {e : Env} {R : Room} {s : State} {m : MethodId} {args : Array Value} {below : List Frame} {meth : Method} {c : Code} {Q : State → Prop} {mi : Nat} {D : va_G} {dA : Nat → ClassId} {b bs : Nat} {sc : Int × (Int → Int)} {ad0 : List Nat} {cells slots pc : Nat} {L st : List om_V} {h : om_H}
theorem om_g_iconst (C : om_Cx p s m args meth c mi D dA b bs sc) {n : Int} (hd : decode (om_by mi) pc = .ok (.iconst n, 1)) (hz : om_Z n) (k : (om_Gd p l e R s m args below meth c Q mi D dA b bs ad0 (pc + 1) (L) (.inl n :: st) (h) (cells) (slots))) : (om_Gd p l e R s m args below meth c Q mi D dA b bs ad0 (pc) (L) (st) (h) (cells) (slots)) := by
  intro ad H locs ls h0 hRe hS hl hn hL hst
  exact lv_iconst C.1 C.2.1 hd rfl (k ad H locs ls h0 hRe hS hl hn hL (List.forall_mem_cons.mpr ⟨hz, hst⟩))
theorem om_g_bipush (C : om_Cx p s m args meth c mi D dA b bs sc) {n : Int} (hd : decode (om_by mi) pc = .ok (.bipush n, 2)) (hz : -128 ≤ n ∧ n ≤ 127) (k : (om_Gd p l e R s m args below meth c Q mi D dA b bs ad0 (pc + 2) (L) (.inl n :: st) (h) (cells) (slots))) : (om_Gd p l e R s m args below meth c Q mi D dA b bs ad0 (pc) (L) (st) (h) (cells) (slots)) := by
  intro ad H locs ls h0 hRe hS hl hn hL hst
  refine lv_bipush C.1 C.2.1 hd ?_ (k ad H locs ls h0 hRe hS hl hn hL (List.forall_mem_cons.mpr ⟨⟨by omega, by omega⟩, hst⟩))
  rw [← Int32.toInt_inj, om_ti ⟨by omega, by omega⟩, Int8.toInt_toInt32, Int8.toInt_ofInt]
  have e8 : (Int8.size : Int) = 256 := rfl
  exact Int.bmod_eq_of_le (by omega) (by omega)
theorem om_g_sipush (C : om_Cx p s m args meth c mi D dA b bs sc) {n : Int} (hd : decode (om_by mi) pc = .ok (.sipush n, 3)) (hz : -32768 ≤ n ∧ n ≤ 32767) (k : (om_Gd p l e R s m args below meth c Q mi D dA b bs ad0 (pc + 3) (L) (.inl n :: st) (h) (cells) (slots))) : (om_Gd p l e R s m args below meth c Q mi D dA b bs ad0 (pc) (L) (st) (h) (cells) (slots)) := by
  intro ad H locs ls h0 hRe hS hl hn hL hst
  refine lv_sipush C.1 C.2.1 hd ?_ (k ad H locs ls h0 hRe hS hl hn hL (List.forall_mem_cons.mpr ⟨⟨by omega, by omega⟩, hst⟩))
  rw [← Int32.toInt_inj, om_ti ⟨by omega, by omega⟩, Int16.toInt_toInt32, Int16.toInt_ofInt]
  have e8 : (Int16.size : Int) = 65536 := rfl
  exact Int.bmod_eq_of_le (by omega) (by omega)
theorem om_okL {n i : Nat} {L : List om_V} {v : om_V} (hL : ∀ v ∈ L, v = om_un ∨ om_ok n v) (h : L[i]? = some v) (hv : v ≠ om_un) : om_ok n v := (hL v (List.mem_of_getElem? h)).resolve_left hv
theorem om_g_iload (C : om_Cx p s m args meth c mi D dA b bs sc) {i : Nat} {z : Int} (hd : decode (om_by mi) pc = .ok (.iload i, 2)) (hi : L[i]? = some (.inl z)) (k : (om_Gd p l e R s m args below meth c Q mi D dA b bs ad0 (pc + 2) (L) (.inl z :: st) (h) (cells) (slots))) : (om_Gd p l e R s m args below meth c Q mi D dA b bs ad0 (pc) (L) (st) (h) (cells) (slots)) := by
  intro ad H locs ls h0 hRe hS hl hn hL hst
  exact lv_iload C.1 C.2.1 hd (om_lv_at hl hi (by simp)) (k ad H locs ls h0 hRe hS hl hn hL (List.forall_mem_cons.mpr ⟨om_okL hL hi (by simp), hst⟩))
theorem om_g_iload_n (C : om_Cx p s m args meth c mi D dA b bs sc) {i : Fin 4} {z : Int} (hd : decode (om_by mi) pc = .ok (.iload_n i, 1)) (hi : L[i.val]? = some (.inl z)) (k : (om_Gd p l e R s m args below meth c Q mi D dA b bs ad0 (pc + 1) (L) (.inl z :: st) (h) (cells) (slots))) : (om_Gd p l e R s m args below meth c Q mi D dA b bs ad0 (pc) (L) (st) (h) (cells) (slots)) := by
  intro ad H locs ls h0 hRe hS hl hn hL hst
  exact lv_iload_n C.1 C.2.1 hd rfl (om_lv_at hl hi (by simp)) (k ad H locs ls h0 hRe hS hl hn hL (List.forall_mem_cons.mpr ⟨om_okL hL hi (by simp), hst⟩))
theorem om_g_aload (C : om_Cx p s m args meth c mi D dA b bs sc) {i : Nat} {z : Nat ⊕ Nat} (hd : decode (om_by mi) pc = .ok (.aload i, 2)) (hz : (∃ a, z = .inl a) ∨ z = .inr 2) (hi : L[i]? = some (.inr z)) (k : (om_Gd p l e R s m args below meth c Q mi D dA b bs ad0 (pc + 2) (L) (.inr z :: st) (h) (cells) (slots))) : (om_Gd p l e R s m args below meth c Q mi D dA b bs ad0 (pc) (L) (st) (h) (cells) (slots)) := by
  intro ad H locs ls h0 hRe hS hl hn hL hst
  rcases hz with ⟨a, rfl⟩ | rfl
  · exact lv_aload C.1 C.2.1 hd (om_lv_at hl hi (by simp)) (k ad H locs ls h0 hRe hS hl hn hL (List.forall_mem_cons.mpr ⟨om_okL hL hi (by simp), hst⟩))
  · exact lv_aload C.1 C.2.1 hd (om_lv_at hl hi (by simp)) (k ad H locs ls h0 hRe hS hl hn hL (List.forall_mem_cons.mpr ⟨om_okL hL hi (by simp), hst⟩))
theorem om_g_aload_n (C : om_Cx p s m args meth c mi D dA b bs sc) {i : Fin 4} {z : Nat ⊕ Nat} (hd : decode (om_by mi) pc = .ok (.aload_n i, 1)) (hz : (∃ a, z = .inl a) ∨ z = .inr 2) (hi : L[i.val]? = some (.inr z)) (k : (om_Gd p l e R s m args below meth c Q mi D dA b bs ad0 (pc + 1) (L) (.inr z :: st) (h) (cells) (slots))) : (om_Gd p l e R s m args below meth c Q mi D dA b bs ad0 (pc) (L) (st) (h) (cells) (slots)) := by
  intro ad H locs ls h0 hRe hS hl hn hL hst
  rcases hz with ⟨a, rfl⟩ | rfl
  · exact lv_aload_n C.1 C.2.1 hd rfl (om_lv_at hl hi (by simp)) (k ad H locs ls h0 hRe hS hl hn hL (List.forall_mem_cons.mpr ⟨om_okL hL hi (by simp), hst⟩))
  · exact lv_aload_n C.1 C.2.1 hd rfl (om_lv_at hl hi (by simp)) (k ad H locs ls h0 hRe hS hl hn hL (List.forall_mem_cons.mpr ⟨om_okL hL hi (by simp), hst⟩))
theorem om_g_istore (C : om_Cx p s m args meth c mi D dA b bs sc) {i : Nat} {z : Int} (hd : decode (om_by mi) pc = .ok (.istore i, 2)) (hi : i < L.length) (k : (om_Gd p l e R s m args below meth c Q mi D dA b bs ad0 (pc + 2) (L.set i (.inl z)) (st) (h) (cells) (slots))) : (om_Gd p l e R s m args below meth c Q mi D dA b bs ad0 (pc) (L) (.inl z :: st) (h) (cells) (slots)) := by
  intro ad H locs ls h0 hRe hS hl hn hL hst
  have hz := List.forall_mem_cons.mp hst
  exact lv_istore C.1 C.2.1 hd hl (by omega) rfl (fun ls' hl' => k ad H locs ls' h0 hRe hS (om_lv_set (v := .inl z) hl') (by simpa using hn) (om_set_ok hL hz.1) hz.2)
theorem om_g_istore_n (C : om_Cx p s m args meth c mi D dA b bs sc) {i : Fin 4} {z : Int} (hd : decode (om_by mi) pc = .ok (.istore_n i, 1)) (hi : i.val < L.length) (k : (om_Gd p l e R s m args below meth c Q mi D dA b bs ad0 (pc + 1) (L.set i.val (.inl z)) (st) (h) (cells) (slots))) : (om_Gd p l e R s m args below meth c Q mi D dA b bs ad0 (pc) (L) (.inl z :: st) (h) (cells) (slots)) := by
  intro ad H locs ls h0 hRe hS hl hn hL hst
  have hz := List.forall_mem_cons.mp hst
  exact lv_istore_n C.1 C.2.1 hd rfl hl (by omega) rfl (fun ls' hl' => k ad H locs ls' h0 hRe hS (om_lv_set (v := .inl z) hl') (by simpa using hn) (om_set_ok hL hz.1) hz.2)
theorem om_g_astore (C : om_Cx p s m args meth c mi D dA b bs sc) {i : Nat} {z : Nat} (hd : decode (om_by mi) pc = .ok (.astore i, 2)) (hi : i < L.length) (k : (om_Gd p l e R s m args below meth c Q mi D dA b bs ad0 (pc + 2) (L.set i (.inr (.inl z))) (st) (h) (cells) (slots))) : (om_Gd p l e R s m args below meth c Q mi D dA b bs ad0 (pc) (L) (.inr (.inl z) :: st) (h) (cells) (slots)) := by
  intro ad H locs ls h0 hRe hS hl hn hL hst
  have hz := List.forall_mem_cons.mp hst
  exact lv_astore C.1 C.2.1 hd hl (by omega) rfl (fun ls' hl' => k ad H locs ls' h0 hRe hS (om_lv_set (v := .inr (.inl z)) hl') (by simpa using hn) (om_set_ok hL hz.1) hz.2)
theorem om_g_astore_n (C : om_Cx p s m args meth c mi D dA b bs sc) {i : Fin 4} {z : Nat} (hd : decode (om_by mi) pc = .ok (.astore_n i, 1)) (hi : i.val < L.length) (k : (om_Gd p l e R s m args below meth c Q mi D dA b bs ad0 (pc + 1) (L.set i.val (.inr (.inl z))) (st) (h) (cells) (slots))) : (om_Gd p l e R s m args below meth c Q mi D dA b bs ad0 (pc) (L) (.inr (.inl z) :: st) (h) (cells) (slots)) := by
  intro ad H locs ls h0 hRe hS hl hn hL hst
  have hz := List.forall_mem_cons.mp hst
  exact lv_astore_n C.1 C.2.1 hd rfl hl (by omega) rfl (fun ls' hl' => k ad H locs ls' h0 hRe hS (om_lv_set (v := .inr (.inl z)) hl') (by simpa using hn) (om_set_ok hL hz.1) hz.2)
theorem om_g_iinc (C : om_Cx p s m args meth c mi D dA b bs sc) {i : Nat} {n z : Int} (hd : decode (om_by mi) pc = .ok (.iinc i n, 3)) (hi : L[i]? = some (.inl z)) (hz : om_Z (z + n)) (k : (om_Gd p l e R s m args below meth c Q mi D dA b bs ad0 (pc + 3) (L.set i (.inl (z + n))) (st) (h) (cells) (slots))) : (om_Gd p l e R s m args below meth c Q mi D dA b bs ad0 (pc) (L) (st) (h) (cells) (slots)) := by
  intro ad H locs ls h0 hRe hS hl hn hL hst
  have hlt : i < L.length := (List.getElem?_eq_some_iff.mp hi).1
  have hmem : (i, om_tr ad b (.inl z)) ∈ om_lv ad b L := om_lv_mem.mpr ⟨_, hi, by simp, rfl⟩
  obtain ⟨k0, hk0⟩ := List.getElem?_of_mem hmem
  exact lv_iinc (x := Int32.ofInt z) (v := Int32.ofInt (z + n)) (k := k0) C.1 C.2.1 hd hl hk0 (om_add z n) (by omega) rfl (fun ls' hl' => k ad H locs ls' h0 hRe hS (om_lv_set (v := .inl (z + n)) hl') (by simpa using hn) (om_set_ok hL hz) hst)
theorem om_g_iadd (C : om_Cx p s m args meth c mi D dA b bs sc) {x y : Int} (hd : decode (om_by mi) pc = .ok (.iadd, 1)) (hz : om_Z (x + y)) (k : (om_Gd p l e R s m args below meth c Q mi D dA b bs ad0 (pc + 1) (L) (.inl (x + y) :: st) (h) (cells) (slots))) : (om_Gd p l e R s m args below meth c Q mi D dA b bs ad0 (pc) (L) (.inl y :: .inl x :: st) (h) (cells) (slots)) := by
  intro ad H locs ls h0 hRe hS hl hn hL hst
  have hst := (List.forall_mem_cons.mp (List.forall_mem_cons.mp hst).2).2
  refine lv_iadd C.1 C.2.1 hd ?_
  rw [om_add]
  exact k ad H locs ls h0 hRe hS hl hn hL (List.forall_mem_cons.mpr ⟨hz, hst⟩)
theorem om_g_isub (C : om_Cx p s m args meth c mi D dA b bs sc) {x y : Int} (hd : decode (om_by mi) pc = .ok (.isub, 1)) (hz : om_Z (x - y)) (k : (om_Gd p l e R s m args below meth c Q mi D dA b bs ad0 (pc + 1) (L) (.inl (x - y) :: st) (h) (cells) (slots))) : (om_Gd p l e R s m args below meth c Q mi D dA b bs ad0 (pc) (L) (.inl y :: .inl x :: st) (h) (cells) (slots)) := by
  intro ad H locs ls h0 hRe hS hl hn hL hst
  have hst := (List.forall_mem_cons.mp (List.forall_mem_cons.mp hst).2).2
  refine lv_isub C.1 C.2.1 hd ?_
  rw [om_sub]
  exact k ad H locs ls h0 hRe hS hl hn hL (List.forall_mem_cons.mpr ⟨hz, hst⟩)
theorem om_g_imul (C : om_Cx p s m args meth c mi D dA b bs sc) {x y : Int} (hd : decode (om_by mi) pc = .ok (.imul, 1)) (hz : om_Z (x * y)) (k : (om_Gd p l e R s m args below meth c Q mi D dA b bs ad0 (pc + 1) (L) (.inl (x * y) :: st) (h) (cells) (slots))) : (om_Gd p l e R s m args below meth c Q mi D dA b bs ad0 (pc) (L) (.inl y :: .inl x :: st) (h) (cells) (slots)) := by
  intro ad H locs ls h0 hRe hS hl hn hL hst
  have hst := (List.forall_mem_cons.mp (List.forall_mem_cons.mp hst).2).2
  refine lv_imul C.1 C.2.1 hd ?_
  rw [om_mul]
  exact k ad H locs ls h0 hRe hS hl hn hL (List.forall_mem_cons.mpr ⟨hz, hst⟩)
theorem om_g_idiv (C : om_Cx p s m args meth c mi D dA b bs sc) {x y : Int} (hd : decode (om_by mi) pc = .ok (.idiv, 1)) (hy : 0 < y) (k : (om_Gd p l e R s m args below meth c Q mi D dA b bs ad0 (pc + 1) (L) (.inl (Int.tdiv x y) :: st) (h) (cells) (slots))) : (om_Gd p l e R s m args below meth c Q mi D dA b bs ad0 (pc) (L) (.inl y :: .inl x :: st) (h) (cells) (slots)) := by
  intro ad H locs ls h0 hRe hS hl hn hL hst
  obtain ⟨zy, hst⟩ := List.forall_mem_cons.mp hst
  obtain ⟨zx, hst⟩ := List.forall_mem_cons.mp hst
  refine lv_idiv C.1 C.2.1 hd (om_nz zy hy) ?_
  rw [om_div zx zy hy]
  exact k ad H locs ls h0 hRe hS hl hn hL (List.forall_mem_cons.mpr ⟨om_tdz zx hy, hst⟩)
theorem om_g_irem (C : om_Cx p s m args meth c mi D dA b bs sc) {x y : Int} (hd : decode (om_by mi) pc = .ok (.irem, 1)) (hy : 0 < y) (k : (om_Gd p l e R s m args below meth c Q mi D dA b bs ad0 (pc + 1) (L) (.inl (Int.tmod x y) :: st) (h) (cells) (slots))) : (om_Gd p l e R s m args below meth c Q mi D dA b bs ad0 (pc) (L) (.inl y :: .inl x :: st) (h) (cells) (slots)) := by
  intro ad H locs ls h0 hRe hS hl hn hL hst
  obtain ⟨zy, hst⟩ := List.forall_mem_cons.mp hst
  obtain ⟨zx, hst⟩ := List.forall_mem_cons.mp hst
  refine lv_irem C.1 C.2.1 hd (om_nz zy hy) ?_
  rw [om_rem zx zy hy]
  exact k ad H locs ls h0 hRe hS hl hn hL (List.forall_mem_cons.mpr ⟨om_tmz zx hy, hst⟩)
theorem om_g_ineg (C : om_Cx p s m args meth c mi D dA b bs sc) {x : Int} (hd : decode (om_by mi) pc = .ok (.ineg, 1)) (hz : om_Z (-x)) (k : (om_Gd p l e R s m args below meth c Q mi D dA b bs ad0 (pc + 1) (L) (.inl (-x) :: st) (h) (cells) (slots))) : (om_Gd p l e R s m args below meth c Q mi D dA b bs ad0 (pc) (L) (.inl x :: st) (h) (cells) (slots)) := by
  intro ad H locs ls h0 hRe hS hl hn hL hst
  refine lv_ineg C.1 C.2.1 hd ?_
  rw [om_neg]
  exact k ad H locs ls h0 hRe hS hl hn hL (List.forall_mem_cons.mpr ⟨hz, (List.forall_mem_cons.mp hst).2⟩)
theorem om_g_iand (C : om_Cx p s m args meth c mi D dA b bs sc) {x : Int} (hd : decode (om_by mi) pc = .ok (.iand, 1)) (k : (om_Gd p l e R s m args below meth c Q mi D dA b bs ad0 (pc + 1) (L) (.inl (x % 32) :: st) (h) (cells) (slots))) : (om_Gd p l e R s m args below meth c Q mi D dA b bs ad0 (pc) (L) (.inl 31 :: .inl x :: st) (h) (cells) (slots)) := by
  intro ad H locs ls h0 hRe hS hl hn hL hst
  have hst := (List.forall_mem_cons.mp (List.forall_mem_cons.mp hst).2).2
  refine lv_iand C.1 C.2.1 hd ?_
  rw [om_a31]
  exact k ad H locs ls h0 hRe hS hl hn hL (List.forall_mem_cons.mpr ⟨⟨by omega, by omega⟩, hst⟩)
theorem om_g_i2c (C : om_Cx p s m args meth c mi D dA b bs sc) {x : Int} (hd : decode (om_by mi) pc = .ok (.i2c, 1)) (k : (om_Gd p l e R s m args below meth c Q mi D dA b bs ad0 (pc + 1) (L) (.inl (x % 65536) :: st) (h) (cells) (slots))) : (om_Gd p l e R s m args below meth c Q mi D dA b bs ad0 (pc) (L) (.inl x :: st) (h) (cells) (slots)) := by
  intro ad H locs ls h0 hRe hS hl hn hL hst
  exact lv_i2c C.1 C.2.1 hd om_i2c (k ad H locs ls h0 hRe hS hl hn hL (List.forall_mem_cons.mpr ⟨⟨by omega, by omega⟩, (List.forall_mem_cons.mp hst).2⟩))
theorem om_g_dup (C : om_Cx p s m args meth c mi D dA b bs sc) {v : om_V} (hd : decode (om_by mi) pc = .ok (.dup, 1)) (k : (om_Gd p l e R s m args below meth c Q mi D dA b bs ad0 (pc + 1) (L) (v :: v :: st) (h) (cells) (slots))) : (om_Gd p l e R s m args below meth c Q mi D dA b bs ad0 (pc) (L) (v :: st) (h) (cells) (slots)) := by
  intro ad H locs ls h0 hRe hS hl hn hL hst
  exact lv_dup C.1 C.2.1 hd (om_cat ad b v) (k ad H locs ls h0 hRe hS hl hn hL (List.forall_mem_cons.mpr ⟨(List.forall_mem_cons.mp hst).1, hst⟩))
theorem om_go_eq {t : Nat} {off : Int} (h : om_go pc off = some t) : (pc : Int) + off = (t : Int) := by
  unfold om_go at h
  split at h
  · have := Option.some.inj h
    omega
  · cases h
theorem om_g_goto (C : om_Cx p s m args meth c mi D dA b bs sc) {off : Int} {t : Nat} (hd : decode (om_by mi) pc = .ok (.goto off, 3)) (ht : om_go pc off = some t) (k : (om_Gd p l e R s m args below meth c Q mi D dA b bs ad0 (t) (L) (st) (h) (cells) (slots))) : (om_Gd p l e R s m args below meth c Q mi D dA b bs ad0 (pc) (L) (st) (h) (cells) (slots)) := by
  intro ad H locs ls h0 hRe hS hl hn hL hst
  exact lv_goto C.1 C.2.1 hd (om_go_eq ht) (k ad H locs ls h0 hRe hS hl hn hL hst)
theorem om_g_ifc (C : om_Cx p s m args meth c mi D dA b bs sc) {cn : ClassFile.Cond} {off x : Int} {t : Nat} (hd : decode (om_by mi) pc = .ok (.ifCond cn off, 3)) (ht : om_go pc off = some t) (k : (om_Gd p l e R s m args below meth c Q mi D dA b bs ad0 (if om_cmp cn x 0 then t else pc + 3) (L) (st) (h) (cells) (slots))) : (om_Gd p l e R s m args below meth c Q mi D dA b bs ad0 (pc) (L) (.inl x :: st) (h) (cells) (slots)) := by
  intro ad H locs ls h0 hRe hS hl hn hL hst
  have k := k ad H locs ls h0 hRe hS hl hn hL (List.forall_mem_cons.mp hst).2
  have zx : om_Z x := (List.forall_mem_cons.mp hst).1
  have z0 : om_Z 0 := by decide
  cases cn
  · refine lv_if_eq C.1 C.2.1 hd (om_go_eq ht) (fun q => ?_) (fun q => ?_)
    · have q := (om_eq zx z0).mp q; simpa [om_cmp, q] using k
    · have q := (not_congr (om_eq zx z0)).mp q; simpa [om_cmp, q] using k
  · refine lv_if_ne C.1 C.2.1 hd (om_go_eq ht) (fun q => ?_) (fun q => ?_)
    · have q := (not_congr (om_eq zx z0)).mp q; simpa [om_cmp, q] using k
    · have q : x = 0 := (om_eq zx z0).mp q; simpa [om_cmp, q] using k
  · refine lv_if_lt C.1 C.2.1 hd (om_go_eq ht) (fun q => ?_) (fun q => ?_)
    · have q := (om_lt zx z0).mp q; simpa [om_cmp, q] using k
    · have q := (not_congr (om_lt zx z0)).mp q; simpa [om_cmp, q] using k
  · refine lv_if_ge C.1 C.2.1 hd (om_go_eq ht) (fun q => ?_) (fun q => ?_)
    · have q := (om_le z0 zx).mp q; simpa [om_cmp, q] using k
    · have q := (not_congr (om_le z0 zx)).mp q; simpa [om_cmp, q] using k
  · refine lv_if_gt C.1 C.2.1 hd (om_go_eq ht) (fun q => ?_) (fun q => ?_)
    · have q := (om_lt z0 zx).mp q; simpa [om_cmp, q] using k
    · have q := (not_congr (om_lt z0 zx)).mp q; simpa [om_cmp, q] using k
  · refine lv_if_le C.1 C.2.1 hd (om_go_eq ht) (fun q => ?_) (fun q => ?_)
    · have q := (om_le zx z0).mp q; simpa [om_cmp, q] using k
    · have q := (not_congr (om_le zx z0)).mp q; simpa [om_cmp, q] using k
theorem om_g_icmp (C : om_Cx p s m args meth c mi D dA b bs sc) {cn : ClassFile.Cond} {off x y : Int} {t : Nat} (hd : decode (om_by mi) pc = .ok (.if_icmp cn off, 3)) (ht : om_go pc off = some t) (k : (om_Gd p l e R s m args below meth c Q mi D dA b bs ad0 (if om_cmp cn x y then t else pc + 3) (L) (st) (h) (cells) (slots))) : (om_Gd p l e R s m args below meth c Q mi D dA b bs ad0 (pc) (L) (.inl y :: .inl x :: st) (h) (cells) (slots)) := by
  intro ad H locs ls h0 hRe hS hl hn hL hst
  obtain ⟨z0, hst⟩ := List.forall_mem_cons.mp hst
  obtain ⟨zx, hst⟩ := List.forall_mem_cons.mp hst
  have k := k ad H locs ls h0 hRe hS hl hn hL hst
  change om_Z y at z0
  change om_Z x at zx
  cases cn
  · refine lv_icmp_eq C.1 C.2.1 hd (om_go_eq ht) (fun q => ?_) (fun q => ?_)
    · have q := (om_eq zx z0).mp q; simpa [om_cmp, q] using k
    · have q := (not_congr (om_eq zx z0)).mp q; simpa [om_cmp, q] using k
  · refine lv_icmp_ne C.1 C.2.1 hd (om_go_eq ht) (fun q => ?_) (fun q => ?_)
    · have q := (not_congr (om_eq zx z0)).mp q; simpa [om_cmp, q] using k
    · have q : x = y := (om_eq zx z0).mp q; simpa [om_cmp, q] using k
  · refine lv_icmp_lt C.1 C.2.1 hd (om_go_eq ht) (fun q => ?_) (fun q => ?_)
    · have q := (om_lt zx z0).mp q; simpa [om_cmp, q] using k
    · have q := (not_congr (om_lt zx z0)).mp q; simpa [om_cmp, q] using k
  · refine lv_icmp_ge C.1 C.2.1 hd (om_go_eq ht) (fun q => ?_) (fun q => ?_)
    · have q := (om_le z0 zx).mp q; simpa [om_cmp, q] using k
    · have q := (not_congr (om_le z0 zx)).mp q; simpa [om_cmp, q] using k
  · refine lv_icmp_gt C.1 C.2.1 hd (om_go_eq ht) (fun q => ?_) (fun q => ?_)
    · have q := (om_lt z0 zx).mp q; simpa [om_cmp, q] using k
    · have q := (not_congr (om_lt z0 zx)).mp q; simpa [om_cmp, q] using k
  · refine lv_icmp_le C.1 C.2.1 hd (om_go_eq ht) (fun q => ?_) (fun q => ?_)
    · have q := (om_le zx z0).mp q; simpa [om_cmp, q] using k
    · have q := (not_congr (om_le zx z0)).mp q; simpa [om_cmp, q] using k
theorem om_g_tsw (C : om_Cx p s m args meth c mi D dA b bs sc) {df lo hi x : Int} {offs : Array Int} {len t : Nat} (hd : decode (om_by mi) pc = .ok (.tableswitch df lo hi offs, len)) (ht : (if x < lo ∨ hi < x then om_go pc df else (offs[(x - lo).toNat]?).bind (om_go pc)) = some t) (k : (om_Gd p l e R s m args below meth c Q mi D dA b bs ad0 (t) (L) (st) (h) (cells) (slots))) : (om_Gd p l e R s m args below meth c Q mi D dA b bs ad0 (pc) (L) (.inl x :: st) (h) (cells) (slots)) := by
  intro ad H locs ls h0 hRe hS hl hn hL hst
  have k := k ad H locs ls h0 hRe hS hl hn hL (List.forall_mem_cons.mp hst).2
  have zx : om_Z x := (List.forall_mem_cons.mp hst).1
  by_cases hq : x < lo ∨ hi < x
  · rw [if_pos hq] at ht
    exact lv_tableOut C.1 C.2.1 hd (by rw [om_ti zx]; exact hq) (om_go_eq ht) k
  · rw [if_neg hq] at ht
    cases ho : offs[(x - lo).toNat]? with
    | none => rw [ho] at ht; cases ht
    | some o =>
      rw [ho] at ht
      exact lv_tableIn C.1 C.2.1 hd (by rw [om_ti zx]; omega) (by rw [om_ti zx]; omega) (by rw [om_ti zx]; exact ho) (om_go_eq ht) k
end om_ins
