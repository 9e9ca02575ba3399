/-! the grammar, as the class reads it -/
abbrev ox_dg (v : Int) : Prop := 48 ≤ v ∧ v ≤ 57
abbrev ox_sg (v : Int) : Prop := v = 43 ∨ v = 45
abbrev ox_st (v : Int) : Prop := ox_dg v ∨ v = 120 ∨ v = 84 ∨ v = 40
abbrev ox_X : Type := Int × Int × (Int → Int → Int)
def ox_tm (v : Int) : Int := if v = 45 then 30 else 1
def ox_t1 (i k v : Int) : Int → Int → Int := fun i' k' => if i' = i ∧ k' = k then v else 0
def ox_cut (A : Int → Int → Int) : Int → Int → Int := fun i k => if i < 5 ∧ k < 13 then A i k else 0
noncomputable def ox_lg (l : Int) (M : Int → Int → Int) : Int := @ite _ (l = 0 ∧ om_ft M) (Classical.propDecidable _) 0 1
def ox_de (c : Int → Int) : Nat → Int → Int
  | 0, i => i
  | f + 1, i => if ox_dg (c i) then ox_de c f (i + 1) else i
def ox_dv (c : Int → Int) : Nat → Int → Int → Int
  | 0, _, v => v
  | f + 1, i, v => if ox_dg (c i) then ox_dv c f (i + 1) ((10 * v + c i - 48) % 31) else v
def ox_br (c : Int → Int) (x : Option ox_X) : Option ox_X := match x with
  | none => none
  | some r => if c r.1 = 41 then some (r.1 + 1, r.2.1, r.2.2) else none
def ox_ra (c : Int → Int) (S : Int → Int → Option ox_X) (i l : Int) : Option ox_X :=
  if ox_dg (c i) then some (ox_de c 40 i, l, ox_t1 0 0 (ox_dv c 40 i 0))
  else if c i = 120 then some (i + 1, l, ox_t1 0 1 1)
  else if c i = 84 then some (i + 1, l, ox_t1 1 0 1)
  else if c i = 40 then ox_br c (S (i + 1) l)
  else none
noncomputable def ox_pp (s : Int) (V : Int → Int → Int) : Nat → Int × (Int → Int → Int) → Int × (Int → Int → Int)
  | 0, x => x
  | n + 1, x => ox_pp s V n (ox_lg x.1 (om_mlt s x.2 V), ox_cut (om_mlt s x.2 V))
noncomputable def ox_pw (s : Int) (c : Int → Int) (A : Int → Int → Option ox_X) (i l : Int) : Option ox_X := match A i l with
  | none => none
  | some r => if c r.1 = 94 then (if ox_dg (c (r.1 + 1)) then some (r.1 + 2, ox_pp s r.2.2 (c (r.1 + 1) - 48).toNat (r.2.1, ox_t1 0 0 1)) else none) else some r
noncomputable def ox_pr (s : Int) (c : Int → Int) (A : Int → Int → Option ox_X) : Nat → Int → Int → (Int → Int → Int) → Option ox_X
  | 0, _, _, _ => none
  | f + 1, i, l, P => match ox_pw s c A i l with
    | none => none
    | some r => if c r.1 = 42 then ox_pr s c A f (r.1 + 1) (ox_lg r.2.1 (om_mlt s P r.2.2)) (ox_cut (om_mlt s P r.2.2)) else if ox_st (c r.1) then ox_pr s c A f r.1 (ox_lg r.2.1 (om_mlt s P r.2.2)) (ox_cut (om_mlt s P r.2.2)) else some (r.1, ox_lg r.2.1 (om_mlt s P r.2.2), ox_cut (om_mlt s P r.2.2))
noncomputable def ox_su (s : Int) (c : Int → Int) (A : Int → Int → Option ox_X) : Nat → Int → Int → Int → (Int → Int → Int) → Option ox_X
  | 0, _, _, _, _ => none
  | f + 1, t, i, l, a => match ox_pr s c A 41 i l (ox_t1 0 0 1) with
    | none => none
    | some r => if ox_sg (c r.1) then ox_su s c A f (ox_tm (c r.1)) (r.1 + 1) r.2.1 (om_ad a r.2.2 t) else some (r.1, r.2.1, om_ad a r.2.2 t)
noncomputable def ox_bd (s : Int) (c : Int → Int) (S : Int → Int → Option ox_X) (i l : Int) : Option ox_X := if ox_sg (c i) then ox_su s c (ox_ra c S) 41 (ox_tm (c i)) (i + 1) l (fun _ _ => 0) else ox_su s c (ox_ra c S) 41 1 i l (fun _ _ => 0)
noncomputable def ox_S (s : Int) (c : Int → Int) : Nat → Int → Int → Option ox_X
  | 0 => ox_bd s c (fun _ _ => none)
  | m + 1 => ox_bd s c (ox_S s c m)
/-- what a reading brings -/
def ox_ok (n i l : Int) (r : ox_X) : Prop := i < r.1 ∧ r.1 ≤ n ∧ (r.2.1 = 0 ∨ r.2.1 = 1) ∧ (l ≠ 0 → r.2.1 = 1) ∧ om_r31 r.2.2 ∧ om_su 5 13 r.2.2
def ox_okA (n : Int) (A : Int → Int → Option ox_X) : Prop := ∀ i l r, 0 ≤ i → i ≤ n → (l = 0 ∨ l = 1) → A i l = some r → ox_ok n i l r
def ox_cc (c : Int → Int) (n : Int) : Prop := (0 ≤ n ∧ n ≤ 40) ∧ (∀ k : Int, n ≤ k → c k = 0) ∧ ∀ k : Int, 0 ≤ c k ∧ c k ≤ 126
theorem ox_lt {c : Int → Int} {n k : Int} (h : ox_cc c n) (hk : c k ≠ 0) : k < n := by
  by_cases e : k < n
  · exact e
  · exact absurd (h.2.1 k (by omega)) hk
theorem ox_t1_r {i k v : Int} (h : 0 ≤ v ∧ v < 31) : om_r31 (ox_t1 i k v) := by
  intro i' k'
  unfold ox_t1
  split
  · exact h
  · decide
theorem ox_t1_su {i k v : Int} (h : 0 ≤ i ∧ i < 5 ∧ 0 ≤ k ∧ k < 13) : om_su 5 13 (ox_t1 i k v) := by
  intro i' k' hn
  exact if_neg (by omega)
theorem ox_cut_r {A : Int → Int → Int} (h : om_r31 A) : om_r31 (ox_cut A) := by
  intro i k
  unfold ox_cut
  split
  · exact h i k
  · decide
theorem ox_cut_m {s : Int} {A B : Int → Int → Int} (hA : om_su 5 13 A) (hB : om_su 5 13 B) : om_su 5 13 (ox_cut (om_mlt s A B)) := by
  intro i k hn
  unfold ox_cut
  split
  · have h := om_mlt_o (s := s) hA hB
    exact h i k (by omega)
  · rfl
theorem ox_lg_b {l : Int} {M : Int → Int → Int} : ox_lg l M = 0 ∨ ox_lg l M = 1 := by
  unfold ox_lg
  by_cases h : l = 0 ∧ om_ft M
  · rw [if_pos h]; exact Or.inl rfl
  · rw [if_neg h]; exact Or.inr rfl
theorem ox_lg_m {l : Int} {M : Int → Int → Int} (h : l ≠ 0) : ox_lg l M = 1 := if_neg (fun w => h w.1)
theorem ox_lg_0 {l : Int} {M : Int → Int → Int} (h : l = 0) (hf : om_ft M) : ox_lg l M = 0 := if_pos ⟨h, hf⟩
theorem ox_lg_1 {l : Int} {M : Int → Int → Int} (hf : ¬ om_ft M) : ox_lg l M = 1 := if_neg (fun w => hf w.2)
theorem ox_lg_z {l : Int} {M : Int → Int → Int} (h : ox_lg l M = 0) : l = 0 ∧ om_ft M := by
  by_cases w : l = 0 ∧ om_ft M
  · exact w
  · have : ox_lg l M = 1 := if_neg w
    omega
theorem ox_cut_f {A : Int → Int → Int} (h : om_ft A) : ox_cut A = A := by
  funext i k
  unfold ox_cut
  split
  · rfl
  · rename_i hn
    by_cases e : A i k = 0
    · exact e.symm
    · have := h i k e
      omega
theorem ox_de_b {c : Int → Int} {n : Int} (hc : ox_cc c n) : ∀ (f : Nat) (i : Int), i ≤ n → i ≤ ox_de c f i ∧ ox_de c f i ≤ n
  | 0, i, h => ⟨Int.le_refl _, h⟩
  | f + 1, i, h => by
    show i ≤ (if ox_dg (c i) then ox_de c f (i + 1) else i) ∧ (if ox_dg (c i) then ox_de c f (i + 1) else i) ≤ n
    by_cases hd : ox_dg (c i)
    · rw [if_pos hd]
      have := ox_lt (k := i) hc (by omega)
      have := ox_de_b hc f (i + 1) (by omega)
      omega
    · rw [if_neg hd]; omega
theorem ox_dv_b {c : Int → Int} : ∀ (f : Nat) (i v : Int), (0 ≤ v ∧ v < 31) → 0 ≤ ox_dv c f i v ∧ ox_dv c f i v < 31
  | 0, i, v, h => h
  | f + 1, i, v, h => by
    show 0 ≤ (if ox_dg (c i) then ox_dv c f (i + 1) ((10 * v + c i - 48) % 31) else v) ∧ (if ox_dg (c i) then ox_dv c f (i + 1) ((10 * v + c i - 48) % 31) else v) < 31
    by_cases hd : ox_dg (c i)
    · rw [if_pos hd]
      exact ox_dv_b f _ _ (by omega)
    · rw [if_neg hd]; exact h
theorem ox_ra_ok {c : Int → Int} {n : Int} (hc : ox_cc c n) {S : Int → Int → Option ox_X} (hS : ox_okA n S) : ox_okA n (ox_ra c S) := by
  intro i l r h0 h1 hl h
  unfold ox_ra at h
  by_cases hd : ox_dg (c i)
  · rw [if_pos hd] at h
    injection h with h
    subst h
    have := ox_lt (k := i) hc (by omega)
    have e : ox_de c 40 i = ox_de c 39 (i + 1) := if_pos hd
    have b := ox_de_b hc 39 (i + 1) (by omega)
    exact ⟨by rw [e]; omega, by rw [e]; omega, hl, fun w => hl.elim (fun h => absurd h w) id, ox_t1_r (ox_dv_b _ _ _ (by decide)), ox_t1_su (by decide)⟩
  · rw [if_neg hd] at h
    by_cases hx : c i = 120
    · rw [if_pos hx] at h
      injection h with h
      subst h
      have := ox_lt (k := i) hc (by omega)
      exact ⟨by dsimp only; omega, by dsimp only; omega, hl, fun w => hl.elim (fun h => absurd h w) id, ox_t1_r (by decide), ox_t1_su (by decide)⟩
    · rw [if_neg hx] at h
      by_cases hT : c i = 84
      · rw [if_pos hT] at h
        injection h with h
        subst h
        have := ox_lt (k := i) hc (by omega)
        exact ⟨by dsimp only; omega, by dsimp only; omega, hl, fun w => hl.elim (fun h => absurd h w) id, ox_t1_r (by decide), ox_t1_su (by decide)⟩
      · rw [if_neg hT] at h
        by_cases hb : c i = 40
        · rw [if_pos hb] at h
          have := ox_lt (k := i) hc (by omega)
          cases e : S (i + 1) l with
          | none => rw [e] at h; exact absurd h (by simp [ox_br])
          | some r' =>
            rw [e] at h
            dsimp only [ox_br] at h
            obtain ⟨a1, a2, a3, a4, a5, a6⟩ := hS (i + 1) l r' (by omega) (by omega) hl e
            by_cases hj : c r'.1 = 41
            · rw [if_pos hj] at h
              injection h with h
              subst h
              have := ox_lt (k := r'.1) hc (by omega)
              exact ⟨by dsimp only; omega, by dsimp only; omega, a3, a4, a5, a6⟩
            · rw [if_neg hj] at h
              exact absurd h (by simp)
        · rw [if_neg hb] at h
          exact absurd h (by simp)
def ox_okP (l : Int) (x : Int × (Int → Int → Int)) : Prop := (x.1 = 0 ∨ x.1 = 1) ∧ (l ≠ 0 → x.1 = 1) ∧ om_r31 x.2 ∧ om_su 5 13 x.2
theorem ox_okP_s {s l : Int} {V : Int → Int → Int} (hV : om_su 5 13 V) {x : Int × (Int → Int → Int)} (h : ox_okP l x) : ox_okP l (ox_lg x.1 (om_mlt s x.2 V), ox_cut (om_mlt s x.2 V)) :=
  ⟨ox_lg_b, fun w => ox_lg_m (by have := h.2.1 w; omega), ox_cut_r om_mlt_r, ox_cut_m h.2.2.2 hV⟩
theorem ox_pp_ok {s l : Int} {V : Int → Int → Int} (hV : om_su 5 13 V) : ∀ (n : Nat) (x : Int × (Int → Int → Int)), ox_okP l x → ox_okP l (ox_pp s V n x)
  | 0, x, h => h
  | n + 1, x, h => ox_pp_ok hV n _ (ox_okP_s hV h)
theorem ox_pw_ok {s : Int} {c : Int → Int} {n : Int} (hc : ox_cc c n) {A : Int → Int → Option ox_X} (hA : ox_okA n A) : ox_okA n (ox_pw s c A) := by
  intro i l r h0 h1 hl h
  unfold ox_pw at h
  cases e : A i l with
  | none => rw [e] at h; exact absurd h (by simp)
  | some r' =>
    rw [e] at h
    dsimp only at h
    obtain ⟨a1, a2, a3, a4, a5, a6⟩ := hA i l r' h0 h1 hl e
    by_cases h9 : c r'.1 = 94
    · rw [if_pos h9] at h
      by_cases hd : ox_dg (c (r'.1 + 1))
      · rw [if_pos hd] at h
        injection h with h
        subst h
        have := ox_lt (k := r'.1 + 1) hc (by omega)
        have p := ox_pp_ok (s := s) (l := l) a6 (c (r'.1 + 1) - 48).toNat (r'.2.1, ox_t1 0 0 1) ⟨a3, a4, ox_t1_r (by decide), ox_t1_su (by decide)⟩
        exact ⟨by dsimp only; omega, by dsimp only; omega, p.1, p.2.1, p.2.2.1, p.2.2.2⟩
      · rw [if_neg hd] at h
        exact absurd h (by simp)
    · rw [if_neg h9] at h
      injection h with h
      subst h
      exact ⟨a1, a2, a3, a4, a5, a6⟩
theorem ox_pr_ok {s : Int} {c : Int → Int} {n : Int} (hc : ox_cc c n) {A : Int → Int → Option ox_X} (hA : ox_okA n A) : ∀ (f : Nat) (i l : Int) (P : Int → Int → Int) (r : ox_X), 0 ≤ i → i ≤ n → (l = 0 ∨ l = 1) → om_su 5 13 P → ox_pr s c A f i l P = some r → ox_ok n i l r ∧ ¬ c r.1 = 42 ∧ ¬ ox_st (c r.1)
  | 0, i, l, P, r, _, _, _, _, h => absurd h (by simp [ox_pr])
  | f + 1, i, l, P, r, h0, h1, hl, hP, h => by
    unfold ox_pr at h
    cases e : ox_pw s c A i l with
    | none => rw [e] at h; exact absurd h (by simp)
    | some r' =>
      rw [e] at h
      dsimp only at h
      obtain ⟨a1, a2, a3, a4, a5, a6⟩ := ox_pw_ok hc hA i l r' h0 h1 hl e
      have m : l ≠ 0 → ox_lg r'.2.1 (om_mlt s P r'.2.2) = 1 := fun w => ox_lg_m (by have := a4 w; omega)
      by_cases h4 : c r'.1 = 42
      · rw [if_pos h4] at h
        have := ox_lt (k := r'.1) hc (by omega)
        obtain ⟨⟨b1, b2, b3, b4, b5, b6⟩, b7, b8⟩ := ox_pr_ok hc hA f _ _ _ r (by omega) (by omega) ox_lg_b (ox_cut_m hP a6) h
        exact ⟨⟨by omega, b2, b3, fun w => b4 (by rw [m w]; decide), b5, b6⟩, b7, b8⟩
      · rw [if_neg h4] at h
        by_cases h5 : ox_st (c r'.1)
        · rw [if_pos h5] at h
          obtain ⟨⟨b1, b2, b3, b4, b5, b6⟩, b7, b8⟩ := ox_pr_ok hc hA f _ _ _ r (by omega) (by omega) ox_lg_b (ox_cut_m hP a6) h
          exact ⟨⟨by omega, b2, b3, fun w => b4 (by rw [m w]; decide), b5, b6⟩, b7, b8⟩
        · rw [if_neg h5] at h
          injection h with h
          subst h
          exact ⟨⟨a1, a2, ox_lg_b, m, ox_cut_r om_mlt_r, ox_cut_m hP a6⟩, h4, h5⟩
theorem ox_ad_r {A B : Int → Int → Int} {t : Int} : om_r31 (om_ad A B t) := by
  intro i k
  unfold om_ad
  omega
theorem ox_ad_su {A B : Int → Int → Int} {t : Int} (hA : om_su 5 13 A) (hB : om_su 5 13 B) : om_su 5 13 (om_ad A B t) := by
  intro i k hn
  unfold om_ad
  rw [hA i k hn, hB i k hn]
  simp
theorem ox_su_ok {s : Int} {c : Int → Int} {n : Int} (hc : ox_cc c n) {A : Int → Int → Option ox_X} (hA : ox_okA n A) : ∀ (f : Nat) (t i l : Int) (a : Int → Int → Int) (r : ox_X), 0 ≤ i → i ≤ n → (l = 0 ∨ l = 1) → om_su 5 13 a → ox_su s c A f t i l a = some r → ox_ok n i l r ∧ ¬ c r.1 = 42 ∧ ¬ ox_st (c r.1) ∧ ¬ ox_sg (c r.1)
  | 0, t, i, l, a, r, _, _, _, _, h => absurd h (by simp [ox_su])
  | f + 1, t, i, l, a, r, h0, h1, hl, ha, h => by
    unfold ox_su at h
    cases e : ox_pr s c A 41 i l (ox_t1 0 0 1) with
    | none => rw [e] at h; exact absurd h (by simp)
    | some r' =>
      rw [e] at h
      dsimp only at h
      obtain ⟨⟨a1, a2, a3, a4, a5, a6⟩, a7, a8⟩ := ox_pr_ok hc hA 41 i l _ r' h0 h1 hl (ox_t1_su (by decide)) e
      by_cases h4 : ox_sg (c r'.1)
      · rw [if_pos h4] at h
        have := ox_lt (k := r'.1) hc (by omega)
        obtain ⟨⟨b1, b2, b3, b4, b5, b6⟩, b7⟩ := ox_su_ok hc hA f _ _ _ _ r (by omega) (by omega) a3 (ox_ad_su ha a6) h
        exact ⟨⟨by omega, b2, b3, fun w => b4 (by rw [a4 w]; decide), b5, b6⟩, b7⟩
      · rw [if_neg h4] at h
        injection h with h
        subst h
        exact ⟨⟨a1, a2, a3, a4, ox_ad_r, ox_ad_su ha a6⟩, a7, a8, h4⟩
theorem ox_bd_ok {s : Int} {c : Int → Int} {n : Int} (hc : ox_cc c n) {S : Int → Int → Option ox_X} (hS : ox_okA n S) (i l : Int) (r : ox_X) (h0 : 0 ≤ i) (h1 : i ≤ n) (hl : l = 0 ∨ l = 1) (h : ox_bd s c S i l = some r) : ox_ok n i l r ∧ ¬ c r.1 = 42 ∧ ¬ ox_st (c r.1) ∧ ¬ ox_sg (c r.1) := by
  unfold ox_bd at h
  by_cases hs : ox_sg (c i)
  · rw [if_pos hs] at h
    have := ox_lt (k := i) hc (by omega)
    obtain ⟨⟨b1, b2⟩, b3⟩ := ox_su_ok hc (ox_ra_ok hc hS) 41 _ _ _ _ r (by omega) (by omega) hl (fun _ _ _ => rfl) h
    exact ⟨⟨by omega, b2⟩, b3⟩
  · rw [if_neg hs] at h
    exact ox_su_ok hc (ox_ra_ok hc hS) 41 _ _ _ _ r h0 h1 hl (fun _ _ _ => rfl) h
theorem ox_S_ok {s : Int} {c : Int → Int} {n : Int} (hc : ox_cc c n) : ∀ m : Nat, ox_okA n (ox_S s c m)
  | 0 => fun i l r h0 h1 hl h => (ox_bd_ok hc (fun i l r _ _ _ h => absurd h (by simp)) i l r h0 h1 hl h).1
  | m + 1 => fun i l r h0 h1 hl h => (ox_bd_ok hc (ox_S_ok hc m) i l r h0 h1 hl h).1
noncomputable def ox_lo (s : Int) (c : Int → Int) : Nat → Int → Int → Option ox_X
  | 0 => fun _ _ => none
  | m + 1 => ox_S s c m
theorem ox_S_e {s : Int} {c : Int → Int} (m : Nat) : ox_S s c m = ox_bd s c (ox_lo s c m) := by
  cases m <;> rfl
theorem ox_lo_ok {s : Int} {c : Int → Int} {n : Int} (hc : ox_cc c n) (m : Nat) : ox_okA n (ox_lo s c m) := by
  cases m with
  | zero => exact fun i l r _ _ _ h => absurd h (by simp [ox_lo])
  | succ m => exact ox_S_ok hc m
