/-! ints -/
theorem om_ti {z : Int} (h : om_Z z) : (Int32.ofInt z).toInt = z := by
  have e : (Int32.size : Int) = 4294967296 := rfl
  rw [Int32.toInt_ofInt]
  exact Int.bmod_eq_of_le (by have := h.1; omega) (by have := h.2; omega)
theorem om_els {a b : Int} (h0 : 0 ≤ a) (hb : 0 < b) : a % b ≤ a := by
  have h1 := Int.mul_ediv_add_emod a b
  have h2 : 0 ≤ b * (a / b) := Int.mul_nonneg (Int.le_of_lt hb) (Int.ediv_nonneg h0 (Int.le_of_lt hb))
  omega
theorem om_zi (x : Int32) : om_Z x.toInt := by
  have h1 := Int32.le_toInt x
  have h2 := Int32.toInt_lt x
  exact ⟨by omega, by omega⟩
theorem om_oi (x : Int32) : Int32.ofInt x.toInt = x := Int32.ofInt_toInt x
theorem om_lt {a b : Int} (ha : om_Z a) (hb : om_Z b) : Int32.ofInt a < Int32.ofInt b ↔ a < b := by
  rw [Int32.lt_iff_toInt_lt, om_ti ha, om_ti hb]
theorem om_le {a b : Int} (ha : om_Z a) (hb : om_Z b) : Int32.ofInt a ≤ Int32.ofInt b ↔ a ≤ b := by
  rw [Int32.le_iff_toInt_le, om_ti ha, om_ti hb]
theorem om_eq {a b : Int} (ha : om_Z a) (hb : om_Z b) : Int32.ofInt a = Int32.ofInt b ↔ a = b := by
  rw [← Int32.toInt_inj, om_ti ha, om_ti hb]
theorem om_add (a b : Int) : Int32.ofInt a + Int32.ofInt b = Int32.ofInt (a + b) := (Int32.ofInt_add a b).symm
theorem om_sub (a b : Int) : Int32.ofInt a - Int32.ofInt b = Int32.ofInt (a - b) := (Int32.ofInt_sub a b).symm
theorem om_mul (a b : Int) : Int32.ofInt a * Int32.ofInt b = Int32.ofInt (a * b) := (Int32.ofInt_mul a b).symm
theorem om_neg (a : Int) : - Int32.ofInt a = Int32.ofInt (-a) := (Int32.ofInt_neg a).symm
theorem om_tdz {a b : Int} (ha : om_Z a) (hb : 0 < b) : om_Z (Int.tdiv a b) := by
  have h := Int.natAbs_tdiv_le_natAbs a b
  obtain ⟨h1, h2⟩ := ha
  by_cases h0 : 0 ≤ a
  · have := Int.tdiv_nonneg h0 (Int.le_of_lt hb)
    constructor <;> omega
  · have h3 : Int.tdiv a b ≤ 0 := by
      have h4 := Int.tdiv_nonneg (a := -a) (b := b) (by omega) (by omega)
      rw [Int.neg_tdiv] at h4
      omega
    constructor <;> omega
theorem om_tmz {a b : Int} (ha : om_Z a) (hb : 0 < b) : om_Z (Int.tmod a b) := by
  obtain ⟨h1, h2⟩ := ha
  by_cases h0 : 0 ≤ a
  · have h3 := Int.tmod_nonneg b h0
    have h4 : Int.tmod a b ≤ a := by rw [Int.tmod_eq_emod_of_nonneg h0]; exact om_els h0 hb
    constructor <;> omega
  · have h3 := Int.tmod_nonneg b (a := -a) (by omega)
    have h4 : Int.tmod (-a) b ≤ -a := by rw [Int.tmod_eq_emod_of_nonneg (by omega)]; exact om_els (by omega) hb
    rw [Int.neg_tmod] at h3 h4
    constructor <;> omega
theorem om_div {a b : Int} (ha : om_Z a) (hb : om_Z b) (h0 : 0 < b) : Int32.ofInt a / Int32.ofInt b = Int32.ofInt (Int.tdiv a b) := by
  rw [← Int32.toInt_inj, Int32.toInt_div, om_ti ha, om_ti hb, om_ti (om_tdz ha h0)]
  have h := om_tdz ha h0
  exact Int.bmod_eq_of_le (by have := h.1; omega) (by have := h.2; omega)
theorem om_rem {a b : Int} (ha : om_Z a) (hb : om_Z b) (h0 : 0 < b) : Int32.ofInt a - Int32.ofInt a / Int32.ofInt b * Int32.ofInt b = Int32.ofInt (Int.tmod a b) := by
  rw [om_div ha hb h0, om_mul, om_sub]
  congr 1
  have := Int.mul_tdiv_add_tmod a b
  rw [Int.mul_comm] at this
  omega
theorem om_nz {b : Int} (hb : om_Z b) (h0 : 0 < b) : ¬ Int32.ofInt b = 0 := by
  intro h
  have h2 := (om_eq hb (b := 0) (by decide)).mp h
  omega
theorem om_vin {z : Int} {n : Nat} (h : om_Z z) (h0 : 0 ≤ z) (h1 : z < n) : vp_in (Int32.ofInt z) n := vp_in_iff.mpr (by rw [om_ti h]; exact ⟨h0, h1⟩)
theorem om_cn' {z : Int} (h : om_Z z) : (Int32.ofInt z).toNatClampNeg = z.toNat := by
  show (Int32.ofInt z).toInt.toNat = _
  rw [om_ti h]
theorem om_nn {n : Nat} : Int32.ofNat n = Int32.ofInt n := by
  rw [Int32.ofInt_eq_ofNat]
theorem om_bvn {z : Int} : (Int32.ofInt z).toBitVec.toNat = (z % 4294967296).toNat := by
  show (BitVec.ofInt 32 z).toNat = _
  rw [BitVec.toNat_ofInt]
  rfl
theorem om_a31 {z : Int} : Int32.ofInt z &&& Int32.ofInt 31 = Int32.ofInt (z % 32) := by
  rw [pk_and (Int32.ofInt z) (m := Int32.ofInt 31) 5 (by decide), om_bvn]
  show Int32.ofNat _ = _
  rw [om_nn]
  congr 1
  omega
theorem om_i2c {z : Int} : ((Int32.ofInt z).toUInt32 % 65536).toInt32 = Int32.ofInt (z % 65536) := by
  rw [pk_char, om_bvn]
  show Int32.ofNat _ = _
  rw [om_nn]
  congr 1
  omega
/-! what stands for what -/
def om_tr (ad : List Nat) (b : Nat) : om_V → Value
  | .inl z => .int (Int32.ofInt z)
  | .inr (.inl a) => .ref (ad.getD a 0)
  | .inr (.inr 2) => .ref b
  | .inr (.inr _) => .null
def om_el (ad : List Nat) : om_V → Option Nat
  | .inr (.inl a) => some (ad.getD a 0)
  | _ => none
def om_ce (ad : List Nat) (b : Nat) (dA : Nat → ClassId) (c : Nat × Nat × List om_V) (g : Int → Int) : va_E :=
  if c.1 = 23 then .inl (dA 23, c.2.1, .inr (.inr (.inr (.inr (fun k => om_el ad (c.2.2.getD k om_nu))))))
  else if 20 ≤ c.1 then .inl (dA c.1, c.2.1, .inl (fun k => Int32.ofInt (g k)))
  else .inr (c.1, c.2.2.map (om_tr ad b))
def om_ws (ad : List Nat) (b : Nat) (dA : Nat → ClassId) (h : om_H) : va_W := h.1.mapIdx (fun k c => (ad.getD k 0, om_ce ad b dA c (h.2 k)))
def om_ok (n : Nat) : om_V → Prop
  | .inl z => om_Z z
  | .inr (.inl a) => a < n
  | .inr (.inr k) => k = 1 ∨ k = 2
def om_okc (n : Nat) (c : Nat × Nat × List om_V) : Prop := ∀ v ∈ c.2.2, om_ok n v
def om_wf (h : om_H) : Prop := (∀ c ∈ h.1, om_okc h.1.length c) ∧ (∀ a z, om_Z (h.2 a z)) ∧ ∀ a, h.1.length ≤ a → ∀ z, h.2 a z = 0
def om_Re (D : va_G) (dA : Nat → ClassId) (A : Nat → Prop) (b : Nat) (ad : List Nat) (h : om_H) (H : Heap) : Prop :=
  ad.length = h.1.length ∧ om_wf h ∧ va_P D om_cl (om_ws ad b dA h) H ∧ va_D A (om_ws ad b dA h)
theorem om_ok_le {n n' : Nat} (h : n ≤ n') : ∀ {v : om_V}, om_ok n v → om_ok n' v
  | .inl _, q => q
  | .inr (.inl _), q => Nat.lt_of_lt_of_le q h
  | .inr (.inr _), q => q
theorem om_getD_pre {ad ad' : List Nat} (h : ad <+: ad') {a : Nat} (ha : a < ad.length) : ad'.getD a 0 = ad.getD a 0 := by
  obtain ⟨t, rfl⟩ := h
  simp [List.getD, List.getElem?_append_left ha]
theorem om_tr_pre {ad ad' : List Nat} {b : Nat} (h : ad <+: ad') : ∀ {v : om_V}, om_ok ad.length v → om_tr ad' b v = om_tr ad b v
  | .inl _, _ => rfl
  | .inr (.inl _), q => by show Value.ref _ = Value.ref _; rw [om_getD_pre h q]
  | .inr (.inr 0), _ => rfl
  | .inr (.inr 1), _ => rfl
  | .inr (.inr 2), _ => rfl
  | .inr (.inr (_ + 3)), _ => rfl
theorem om_map_pre {ad ad' : List Nat} {b : Nat} (h : ad <+: ad') {l : List om_V} (hl : ∀ v ∈ l, om_ok ad.length v) : l.map (om_tr ad' b) = l.map (om_tr ad b) :=
  List.map_congr_left (fun v hv => om_tr_pre h (hl v hv))
theorem om_el_pre {ad ad' : List Nat} (h : ad <+: ad') : ∀ {v : om_V}, om_ok ad.length v → om_el ad' v = om_el ad v
  | .inl _, _ => rfl
  | .inr (.inl _), q => by show some _ = some _; rw [om_getD_pre h q]
  | .inr (.inr _), _ => rfl
theorem om_ce_pre {ad ad' : List Nat} {b : Nat} {dA : Nat → ClassId} (h : ad <+: ad') {c : Nat × Nat × List om_V} (hc : om_okc ad.length c) (g : Int → Int) : om_ce ad' b dA c g = om_ce ad b dA c g := by
  unfold om_ce
  split
  · have e : (fun k => om_el ad' (c.2.2.getD k om_nu)) = (fun k => om_el ad (c.2.2.getD k om_nu)) := by
     funext k
     by_cases hk : k < c.2.2.length
     · have hm : c.2.2.getD k om_nu ∈ c.2.2 := by
         simp [List.getD, List.getElem?_eq_getElem hk]
       exact om_el_pre h (hc _ hm)
     · have : c.2.2.getD k om_nu = om_nu := by simp [List.getD, List.getElem?_eq_none (Nat.le_of_not_lt hk)]
       rw [this]
       rfl
    rw [e]
  · split
    · rfl
    · rw [om_map_pre h hc]
theorem om_ws_len {ad : List Nat} {b : Nat} {dA : Nat → ClassId} {h : om_H} : (om_ws ad b dA h).length = h.1.length := by simp [om_ws]
theorem om_ws_get {ad : List Nat} {b : Nat} {dA : Nat → ClassId} {h : om_H} (k : Nat) : (om_ws ad b dA h)[k]? = (h.1[k]?).map (fun c => (ad.getD k 0, om_ce ad b dA c (h.2 k))) := by
  simp [om_ws]
theorem om_ws_at {ad : List Nat} {b : Nat} {dA : Nat → ClassId} {h : om_H} {k : Nat} {c : Nat × Nat × List om_V} (e : h.1[k]? = some c) : (om_ws ad b dA h)[k]? = some (ad.getD k 0, om_ce ad b dA c (h.2 k)) := by
  rw [om_ws_get, e]
  rfl
theorem om_ws_setO {ad : List Nat} {b : Nat} {dA : Nat → ClassId} {h : om_H} {k : Nat} (c' : Nat × Nat × List om_V) : (om_ws ad b dA h).set k (ad.getD k 0, om_ce ad b dA c' (h.2 k)) = om_ws ad b dA (h.1.set k c', h.2) := by
  apply List.ext_getElem?
  intro j
  rw [List.getElem?_set, om_ws_get, om_ws_get, om_ws_len]
  dsimp only
  rw [List.getElem?_set]
  by_cases hj : k = j
  · subst hj
    by_cases hl : k < h.1.length
    · simp [hl]
    · simp [hl]
  · simp [hj]
theorem om_ws_setI {ad : List Nat} {b : Nat} {dA : Nat → ClassId} {h : om_H} {k : Nat} {c : Nat × Nat × List om_V} (e : h.1[k]? = some c) (f : Int → Int) : (om_ws ad b dA h).set k (ad.getD k 0, om_ce ad b dA c f) = om_ws ad b dA (h.1, om_u h.2 k f) := by
  apply List.ext_getElem?
  intro j
  rw [List.getElem?_set, om_ws_get, om_ws_get, om_ws_len]
  dsimp only
  by_cases hj : k = j
  · subst hj
    have hl : k < h.1.length := (List.getElem?_eq_some_iff.mp e).1
    rw [if_pos rfl, if_pos hl, e]
    simp [om_u]
  · rw [if_neg hj]
    have hj' : ¬ j = k := fun q => hj q.symm
    simp [om_u, hj']
theorem om_ws_push {ad : List Nat} {b : Nat} {dA : Nat → ClassId} {h : om_H} (q : Nat) (c : Nat × Nat × List om_V) (hl : ad.length = h.1.length) (hw : om_wf h) : om_ws ad b dA h ++ [(q, om_ce (ad ++ [q]) b dA c (h.2 h.1.length))] = om_ws (ad ++ [q]) b dA (h.1 ++ [c], h.2) := by
  apply List.ext_getElem?
  intro j
  rw [om_ws_get]
  dsimp only
  by_cases hj : j < h.1.length
  · rw [List.getElem?_append_left (by rw [om_ws_len]; exact hj), om_ws_get, List.getElem?_append_left hj, List.getElem?_eq_getElem hj]
    simp only [Option.map_some]
    rw [om_ce_pre (ad := ad) (ad' := ad ++ [q]) ⟨[q], rfl⟩ (by rw [hl]; exact hw.1 _ (List.getElem_mem hj)), om_getD_pre (ad := ad) ⟨[q], rfl⟩ (by omega)]
  · rw [List.getElem?_append_right (by rw [om_ws_len]; omega), List.getElem?_append_right (by omega), om_ws_len]
    by_cases hj2 : j = h.1.length
    · subst hj2
      simp [List.getD, ← hl]
    · have : j - h.1.length ≠ 0 := by omega
      obtain ⟨m, hm⟩ := Nat.exists_eq_succ_of_ne_zero this
      rw [hm]
      simp
theorem om_cat (ad : List Nat) (b : Nat) (v : om_V) : (om_tr ad b v).category = 1 := by
  rcases v with z | a | k
  · rfl
  · rfl
  · match k with
    | 0 => rfl
    | 1 => rfl
    | 2 => rfl
    | _ + 3 => rfl
theorem om_cats (ad : List Nat) (b : Nat) : ∀ l : List om_V, ((l.map (om_tr ad b)).map fun v => v.category).sum = l.length
  | [] => rfl
  | v :: l => by
    simp only [List.map_cons, List.sum_cons, List.length_cons]
    rw [om_cat, om_cats ad b l]
    omega
