/-! reduction by images: what a state of it says -/
noncomputable def on_ip (M : Int → Int → Int) (k : Int) : Bool := @decide (¬ on_dep M k) (Classical.propDecidable _)
theorem on_ip_t {M : Int → Int → Int} {k : Int} : on_ip M k = true ↔ ¬ on_dep M k := by
  unfold on_ip
  exact @decide_eq_true_iff _ (Classical.propDecidable _)
theorem on_ip_f {M : Int → Int → Int} {k : Int} (h : on_dep M k) : on_ip M k = false := by
  cases e : on_ip M k with
  | false => rfl
  | true => exact absurd h (on_ip_t.mp e)
def on_st (M : Int → Int → Int) (j n : Nat) (IM SO : Int → Int → Int) (PV : Int → Int) : Prop :=
  ((n : Int) = on_pc (on_ip M) j) ∧ (∀ r : Int, 0 ≤ r → r < n → (0 ≤ PV r ∧ PV r < 25) ∧ (∀ k, 0 ≤ k → k < 25 → (0 ≤ IM r k ∧ IM r k < 31) ∧ (IM r k - on_mv M (SO r) k) % 31 = 0) ∧ (∀ k : Int, 0 ≤ k → k < 13 → (0 ≤ SO r k ∧ SO r k < 31) ∧ (SO r k ≠ 0 → on_ip M k = true ∧ k < j)) ∧ IM r (PV r) = 1 ∧ ∀ r', 0 ≤ r' → r' < r → IM r (PV r') = 0) ∧ ∀ u : Int → Int, (∀ k : Int, ¬ (0 ≤ k ∧ k < j) → u k = 0) → (∀ r : Int, 0 ≤ r → r < n → on_mv M u (PV r) % 31 = 0) → on_K M u
def on_rp (M : Int → Int → Int) (Y : Int → Int) (PV : Int → Int) (j jj : Int) (r : Nat) (im so : Int → Int) : Prop :=
  (∀ k, 0 ≤ k → k < 25 → (0 ≤ im k ∧ im k < 31) ∧ (im k - Y k - on_mv M so k) % 31 = 0) ∧ (∀ r' : Int, 0 ≤ r' → r' < r → im (PV r') = 0) ∧ (∀ k, 0 ≤ k → k < 13 → (0 ≤ so k ∧ so k < 31) ∧ (k ≠ jj → so k ≠ 0 → on_ip M k = true ∧ k < j)) ∧ (0 ≤ jj → so jj = 1)
theorem on_st_0 {M IM SO : Int → Int → Int} {PV : Int → Int} : on_st M 0 0 IM SO PV := by
  refine ⟨rfl, fun r r0 r1 => by omega, fun u hu _ r r0 r1 => ?_⟩
  have : on_mv M u r = 0 := om_sm_0 (fun k k0 k1 => by rw [hu k (by omega), Int.mul_zero])
  rw [this]
  rfl
theorem on_rp_s {M IM SO : Int → Int → Int} {Y PV im so im' so' : Int → Int} {j n : Nat} {jj : Int} {r : Nat} (hst : on_st M j n IM SO PV) (hr : r < n) (hjj : jj = j ∨ jj < 0) (hj : j ≤ 13) (h : on_rp M Y PV j jj r im so) (e1 : ∀ k, 0 ≤ k → k < 25 → im' k = (im k - im (PV r) * IM r k) % 31) (e2 : ∀ k, 0 ≤ k → k < 13 → so' k = (so k - im (PV r) * SO r k) % 31) (hj12 : jj < 13) : on_rp M Y PV j jj (r + 1) im' so' := by
  obtain ⟨s1, s2, s3⟩ := hst
  obtain ⟨a1, a2, a3, a4, a5⟩ := s2 r (by omega) (by omega)
  obtain ⟨b1, b2, b3, b4⟩ := h
  refine ⟨fun k k0 k1 => ?_, fun r' r0 r1 => ?_, fun k k0 k1 => ?_, fun h0 => ?_⟩
  · rw [e1 k k0 k1]
    refine ⟨by omega, ?_⟩
    have h1 : (on_mv M so' k - on_mv M (fun k => so k - im (PV r) * SO r k) k) % 31 = 0 := on_mv_cg (fun k k0 k1 => by rw [e2 k k0 k1]; omega)
    rw [on_mv_sub] at h1
    have h2 := (b1 k k0 k1).2
    have h3 := on_dmul (u := im (PV r)) (a2 k k0 k1).2
    rw [Int.mul_comm, Int.mul_comm (on_mv M (SO r) k)] at h3
    omega
  · have hb : 0 ≤ PV r' ∧ PV r' < 25 := (s2 r' r0 (by omega)).1
    rw [e1 _ hb.1 hb.2]
    by_cases hrr : r' = r
    · rw [hrr, a4, Int.mul_one, Int.sub_self]
      rfl
    · rw [b2 r' r0 (by omega), a5 r' r0 (by omega), Int.mul_zero]
      rfl
  · rw [e2 k k0 k1]
    refine ⟨by omega, fun kn hk => ?_⟩
    by_cases h1 : so k = 0
    · by_cases h2 : SO r k = 0
      · rw [h1, h2, Int.mul_zero] at hk
        exact absurd rfl hk
      · exact (a3 k k0 k1).2 h2
    · exact (b3 k k0 k1).2 kn h1
  · rw [e2 jj h0 hj12, b4 h0]
    have : SO r jj = 0 := Decidable.byContradiction (fun q => by
      have := ((a3 jj h0 hj12).2 q).2
      omega)
    rw [this, Int.mul_zero]
    rfl
/-- the source as a vector on the columns up to j -/
def on_cut (so : Int → Int) (j k : Int) : Int := if 0 ≤ k ∧ k ≤ j then so k else 0
theorem on_cut_mv {M IM SO : Int → Int → Int} {Y PV im so : Int → Int} {j n : Nat} (hj : j ≤ 12) (h : on_rp M Y PV j j n im so) (r : Int) : on_mv M (on_cut so j) r = on_mv M so r := by
  refine om_sm_c (fun k k0 k1 => ?_)
  unfold on_cut
  by_cases hk : k ≤ j
  · rw [if_pos ⟨k0, hk⟩]
  · rw [if_neg (fun z => hk z.2)]
    have : so k = 0 := Decidable.byContradiction (fun q => by
      have := ((h.2.2.1 k k0 (by omega)).2 (by omega) q).2
      omega)
    rw [this]
theorem on_rp_dep {M : Int → Int → Int} {PV im so : Int → Int} {j n : Nat} (hj : j ≤ 12) (h : on_rp M (fun _ => 0) PV j j n im so) (hz : ∀ k, 0 ≤ k → k < 25 → im k = 0) : on_dep M j ∧ on_K M so := by
  have hK : on_K M so := by
    intro r r0 r1
    have : (im r - 0 - on_mv M so r) % 31 = 0 := (h.1 r r0 r1).2
    rw [hz r r0 r1] at this
    omega
  refine ⟨⟨on_cut so j, fun k hk => if_neg hk, ?_, fun r r0 r1 => ?_⟩, hK⟩
  · unfold on_cut
    rw [if_pos (by omega), h.2.2.2 (by omega)]
    rfl
  · rw [on_cut_mv (IM := M) (SO := M) hj h r]
    exact hK r r0 r1
/-- a vector up to j, with its part along the source taken away -/
theorem on_st_w {M IM SO : Int → Int → Int} {PV im so u : Int → Int} {j n : Nat} (hj : j ≤ 12) (hst : on_st M j n IM SO PV) (h : on_rp M (fun _ => 0) PV j j n im so) (hu : ∀ k, ¬ (0 ≤ k ∧ k < (j : Int) + 1) → u k = 0) (hz : ∀ r : Int, 0 ≤ r → r < n → on_mv M u (PV r) % 31 = 0) : ∀ k, 0 ≤ k → k < 25 → (on_mv M u k - u j * im k) % 31 = 0 := by
  obtain ⟨s1, s2, s3⟩ := hst
  have im_mv : ∀ k, 0 ≤ k → k < 25 → (im k - on_mv M so k) % 31 = 0 := fun k k0 k1 => by
    have : (im k - 0 - on_mv M so k) % 31 = 0 := (h.1 k k0 k1).2
    omega
  have hK := s3 (fun k => u k - u j * on_cut so j k) (fun k hk => ?_) (fun r r0 r1 => ?_)
  · intro k k0 k1
    have a := hK k k0 k1
    rw [on_mv_sub, on_cut_mv (IM := M) (SO := M) hj h k] at a
    have b := on_dmul (u := u j) (im_mv k k0 k1)
    rw [Int.mul_comm, Int.mul_comm (on_mv M so k)] at b
    omega
  · show u k - u j * on_cut so j k = 0
    by_cases e : k = j
    · have : on_cut so j k = 1 := by
        unfold on_cut
        rw [if_pos (by omega), e, h.2.2.2 (by omega)]
      rw [this, e, Int.mul_one, Int.sub_self]
    · rw [hu k (by omega)]
      have : on_cut so j k = 0 := if_neg (by omega)
      rw [this, Int.mul_zero]
      rfl
  · rw [on_mv_sub, on_cut_mv (IM := M) (SO := M) hj h]
    have a := hz r r0 r1
    have hb : 0 ≤ PV r ∧ PV r < 25 := (s2 r r0 r1).1
    have c := im_mv _ hb.1 hb.2
    rw [h.2.1 r r0 r1] at c
    have b := on_dmul (u := u j) c
    rw [Int.mul_comm, Int.mul_comm (on_mv M so (PV r)), Int.mul_zero] at b
    omega
theorem on_rp_ind {M IM SO : Int → Int → Int} {PV im so : Int → Int} {j n : Nat} {pv : Int} (hj : j ≤ 12) (hst : on_st M j n IM SO PV) (h : on_rp M (fun _ => 0) PV j j n im so) (hp : 0 ≤ pv ∧ pv < 25) (hn : im pv ≠ 0) : ¬ on_dep M j := by
  rintro ⟨u, u1, u2, u3⟩
  have hw := on_st_w hj hst h (u := u) (fun k hk => u1 k (by omega)) (fun r r0 r1 => u3 _ (hst.2.1 r r0 r1).1.1 (hst.2.1 r r0 r1).1.2) pv hp.1 hp.2
  have a := u3 pv hp.1 hp.2
  have b := (h.1 pv hp.1 hp.2).1
  have c := on_dmul (x := u j) (y := 1) (u := im pv) (by omega)
  omega
theorem on_st_dep {M IM SO : Int → Int → Int} {PV im so : Int → Int} {j n : Nat} (hj : j ≤ 12) (hst : on_st M j n IM SO PV) (h : on_rp M (fun _ => 0) PV j j n im so) (hz : ∀ k, 0 ≤ k → k < 25 → im k = 0) : on_st M (j + 1) n IM SO PV := by
  have hd := (on_rp_dep hj h hz).1
  refine ⟨?_, fun r r0 r1 => ?_, fun u hu hr k k0 k1 => ?_⟩
  · show _ = on_pc (on_ip M) j + (if on_ip M j then 1 else 0)
    rw [on_ip_f hd, ← hst.1]
    simp
  · obtain ⟨a1, a2, a3, a4, a5⟩ := hst.2.1 r r0 r1
    exact ⟨a1, a2, fun k k0 k1 => ⟨(a3 k k0 k1).1, fun hk => ⟨((a3 k k0 k1).2 hk).1, by have := ((a3 k k0 k1).2 hk).2; omega⟩⟩, a4, a5⟩
  · have a := on_st_w hj hst h (u := u) (fun k hk => hu k (by omega)) hr k k0 k1
    rw [hz k k0 k1, Int.mul_zero] at a
    omega
theorem on_st_tell {M IM SO IM' SO' : Int → Int → Int} {PV PV' im so : Int → Int} {j n : Nat} {pv : Int} (hj : j ≤ 12) (hst : on_st M j n IM SO PV) (h : on_rp M (fun _ => 0) PV j j n im so) (hp : 0 ≤ pv ∧ pv < 25) (hn : im pv ≠ 0) (e1 : ∀ r k : Int, 0 ≤ r → r < n → 0 ≤ k → k < 25 → IM' r k = IM r k) (e2 : ∀ r k : Int, 0 ≤ r → r < n → 0 ≤ k → k < 13 → SO' r k = SO r k) (e3 : ∀ r : Int, 0 ≤ r → r < n → PV' r = PV r) (e4 : ∀ k, 0 ≤ k → k < 25 → IM' n k = (im k * om_pw (im pv) 29) % 31) (e5 : ∀ k, 0 ≤ k → k < 13 → SO' n k = (so k * om_pw (im pv) 29) % 31) (e6 : PV' n = pv) : on_st M (j + 1) (n + 1) IM' SO' PV' := by
  have hi := on_rp_ind hj hst h hp hn
  have hit := on_ip_t.mpr hi
  have bp := (h.1 pv hp.1 hp.2).1
  obtain ⟨⟨u1, u2⟩, u3⟩ := om_inv_eq (im pv) (by omega) (by omega)
  generalize om_pw (im pv) 29 = c at u1 u2 u3 e4 e5
  refine ⟨?_, fun r r0 r1 => ?_, fun u hu hr => ?_⟩
  · show _ = on_pc (on_ip M) j + (if on_ip M j then 1 else 0)
    rw [hit, ← hst.1]
    simp
  · by_cases hrn : r < n
    · obtain ⟨a1, a2, a3, a4, a5⟩ := hst.2.1 r r0 hrn
      have em : ∀ k, on_mv M (SO' r) k = on_mv M (SO r) k := fun k => om_sm_c (fun k k0 k1 => by rw [e2 r k r0 hrn k0 (by omega)])
      refine ⟨by rw [e3 r r0 hrn]; exact a1, fun k k0 k1 => by rw [e1 r k r0 hrn k0 k1, em]; exact a2 k k0 k1, fun k k0 k1 => ?_, ?_, fun r' q0 q1 => ?_⟩
      · rw [e2 r k r0 hrn k0 k1]
        exact ⟨(a3 k k0 k1).1, fun hk => ⟨((a3 k k0 k1).2 hk).1, by have := ((a3 k k0 k1).2 hk).2; omega⟩⟩
      · rw [e3 r r0 hrn, e1 r _ r0 hrn a1.1 a1.2]
        exact a4
      · have b := (hst.2.1 r' q0 (by omega)).1
        rw [e3 r' q0 (by omega), e1 r _ r0 hrn b.1 b.2]
        exact a5 r' q0 q1
    · have er : r = n := by omega
      rw [er, e6]
      refine ⟨hp, fun k k0 k1 => ?_, fun k k0 k1 => ?_, ?_, fun r' q0 q1 => ?_⟩
      · rw [e4 k k0 k1]
        refine ⟨by omega, ?_⟩
        have h1 : (on_mv M (SO' n) k - on_mv M (fun k => 0 - (-c) * so k) k) % 31 = 0 := on_mv_cg (fun k k0 k1 => by
          rw [e5 k k0 k1, Int.neg_mul, Int.mul_comm]
          omega)
        have h2 : on_mv M (fun k => 0 - (-c) * so k) k = on_mv M (fun _ => 0) k - (-c) * on_mv M so k := on_mv_sub
        have h3 : on_mv M (fun _ => 0) k = 0 := om_sm_0 (fun _ _ _ => Int.mul_zero _)
        rw [h2, h3, Int.neg_mul] at h1
        have h4 : (im k - 0 - on_mv M so k) % 31 = 0 := (h.1 k k0 k1).2
        have h5 := on_dmul (x := im k) (y := on_mv M so k) (u := c) (by omega)
        rw [Int.mul_comm (on_mv M so k)] at h5
        omega
      · rw [e5 k k0 k1]
        refine ⟨by omega, fun hk => ?_⟩
        have h1 : so k ≠ 0 := fun q => hk (by rw [q, Int.zero_mul]; rfl)
        by_cases e : k = j
        · rw [e]
          exact ⟨hit, by omega⟩
        · have := (h.2.2.1 k k0 k1).2 e h1
          exact ⟨this.1, by omega⟩
      · rw [e4 pv hp.1 hp.2]
        exact u3
      · have b := (hst.2.1 r' q0 (by omega)).1
        rw [e3 r' q0 (by omega), e4 _ b.1 b.2, h.2.1 r' q0 (by omega), Int.zero_mul]
        rfl
  · have hw := on_st_w hj hst h (u := u) (fun k hk => hu k (by omega)) (fun r r0 r1 => by
      have := hr r r0 (by omega)
      rw [e3 r r0 r1] at this
      exact this)
    have a := hw pv hp.1 hp.2
    have b := hr n (by omega) (by omega)
    rw [e6] at b
    have huj : u j % 31 = 0 := by
      have z : ((u j % 31) * (im pv)) % 31 = 0 := by
        have c1 := on_dmul (x := u j) (y := u j % 31) (u := im pv) (by omega)
        omega
      rw [Int.mul_comm] at z
      exact om_p31 (by omega) (by omega) z
    intro k k0 k1
    have d1 := hw k k0 k1
    have d2 := on_dmul (x := u j) (y := 0) (u := im k) (by omega)
    rw [Int.zero_mul] at d2
    omega
theorem on_rp_nos {M IM SO : Int → Int → Int} {G PV im so : Int → Int} {n : Nat} {d pv : Int} (hd : 0 ≤ d ∧ d ≤ 12) (hst : on_st M (d + 1).toNat n IM SO PV) (h : on_rp M G PV (d + 1) (-1) n im so) (hp : 0 ≤ pv ∧ pv < 25) (hn : im pv ≠ 0) : on_nos M G d := by
  intro v hv hs
  have ec : ∀ r, on_mv M (on_cut so d) r = on_mv M so r := fun r => om_sm_c (fun k k0 k1 => by
    unfold on_cut
    by_cases hk : k ≤ d
    · rw [if_pos ⟨k0, hk⟩]
    · rw [if_neg (fun z => hk z.2)]
      have : so k = 0 := Decidable.byContradiction (fun q => by
        have := ((h.2.2.1 k k0 (by omega)).2 (by omega) q).2
        omega)
      rw [this])
  have key : ∀ k, 0 ≤ k → k < 25 → (on_mv M (fun k => v k - (-1) * on_cut so d k) k - im k) % 31 = 0 := by
    intro k k0 k1
    rw [on_mv_sub, ec]
    have a := hs k k0 k1
    have b := (h.1 k k0 k1).2
    omega
  have hK := hst.2.2 (fun k => v k - (-1) * on_cut so d k) (fun k hk => ?_) (fun r r0 r1 => ?_)
  · have a := hK pv hp.1 hp.2
    have b := key pv hp.1 hp.2
    have c := (h.1 pv hp.1 hp.2).1
    omega
  · show v k - (-1) * on_cut so d k = 0
    have e : on_cut so d k = 0 := if_neg (by omega)
    rw [hv k (by omega), e]
    rfl
  · have hb : 0 ≤ PV r ∧ PV r < 25 := (hst.2.1 r r0 r1).1
    have b := key _ hb.1 hb.2
    rw [h.2.1 r r0 r1] at b
    omega
