/-! the law: the other calls in step -/
theorem oz_r2 {I I' : Nat → Int → Int} {to t2 : Int} {V V2 : Int → Int → Int} (h : oz_1 I) (ht : 0 ≤ to ∧ to < 8) (ht2 : 0 ≤ t2 ∧ t2 < 8) (hI : ∀ b, b < 20 → b ≠ om_ca to → b ≠ om_ca t2 → I' b = I b) (hh : ∀ r, 0 ≤ r → r < 8 → r ≠ to → r ≠ t2 → om_hd I' r = om_hd I r) (e1 : om_cr I' to = V) (e2 : om_hd I' to = V) (rV : om_r31 V) (e3 : om_cr I' t2 = V2) (e4 : om_hd I' t2 = V2) (rV2 : om_r31 V2) : oz_1 I' := by
  intro r r0 r1
  by_cases er : r = to
  · rw [er, e1, e2]
    exact ⟨rfl, rV⟩
  · by_cases er2 : r = t2
    · rw [er2, e3, e4]
      exact ⟨rfl, rV2⟩
    · have e : om_cr I' r = om_cr I r := by
        unfold om_cr
        rw [hI (om_ca r) (by unfold om_ca; omega) (by unfold om_ca; omega) (by unfold om_ca; omega)]
      rw [e, hh r r0 r1 er er2]
      exact h r r0 r1
theorem oz_dr_r {s n u : Int} {B : Int → Int → Int} : ∀ (m : Nat) (R : Int → Int → Int), om_r31 R → om_r31 (om_dr s B n u m R)
  | 0, R, h => h
  | m + 1, R, h => oz_dr_r m _ om_ds_r
theorem pp_divide {sc : Int × (Int → Int)} {s : Int} {q : Nat → Int} {I : Nat → Int → Int} {K1 : Option om_V → om_H → Prop} {K2 : Int → Option om_V → om_H → Prop} {qu : Int} {re : Int} {a : Int} {b : Int} (hs : s = 0 ∨ s = 1) (hJ : oz_J q I) (h1 : ∀ (v : Int) q' I', om_R sc 59 135 0 [.inr (.inl 101), .inl qu, .inl re, .inl a, .inl b, om_un] [] (om_O s q', I') (K2 v) → K1 (some (.inl v)) (om_O s q', I')) (h2 : ∀ (v : Int) q' I', oz_J q' I' → K2 v (some (.inl v)) (om_O s q', I')) : om_R sc 59 57 0 [.inr (.inl 0), .inl qu, .inl re, .inl a, .inl b] [] (om_O s q, I) K1 := by
  have J1 := hJ.1
  refine or_divide (oz_rg J1) (fun hr => h1 _ _ _ ?_) (fun hr ho => h1 _ _ _ ?_) (fun hr ho hf I1 f1 => h1 _ _ _ ?_) (fun hr ho hf I1 f1 f2 f2' => h1 _ _ _ ?_)
  · exact md_divide (oz_rh J1) (fun _ => h2 _ _ _ hJ) (fun w => absurd w hr) (fun w => absurd w hr) (fun w => absurd w hr)
  · rw [(J1 b hr.2.1.1 hr.2.1.2).1] at ho
    refine md_divide (oz_rh J1) (fun w => absurd hr w) (fun _ _ I2 f3 => h2 _ _ _ (oz_kp hJ (fun b hb => ?_) (fun r _ _ => ?_) (fun _ _ => rfl))) (fun _ w => absurd w ho) (fun _ w => absurd w ho)
    · have := oz_w_hi hb
      rw [f3 b (by omega)]
    · rw [oz_hd (f3 102 (by decide))]
  · have e : om_hd I1 = om_hd I := oz_hd (f1 102 (by decide) (by decide) (by decide))
    rw [(J1 a hr.1.2.2.1 hr.1.2.2.2).1, (J1 b hr.2.1.1 hr.2.1.2).1] at hf
    rw [(J1 b hr.2.1.1 hr.2.1.2).1] at ho
    refine md_divide (by rw [e]; exact oz_rh J1) (fun w => absurd hr w) (fun _ w => absurd ho (by rw [e] at w; exact w)) (fun _ _ _ I2 f3 => h2 _ _ _ (oz_kp hJ (fun b hb => ?_) (fun r _ _ => ?_) (fun _ _ => rfl))) (fun _ _ w => absurd (by rw [e] at w; exact w) hf)
    · have := oz_w_hi hb
      rw [f3 b (by omega), f1 b (by omega) (by omega) (by omega)]
    · rw [oz_hd (f3 102 (by decide)), e]
  · have e : om_hd I1 = om_hd I := oz_hd (f1 102 (by unfold om_ca; omega) (by unfold om_ca; omega) (by decide) (by decide) (by decide))
    have ea := (J1 a hr.1.2.2.1 hr.1.2.2.2).1
    have eb := (J1 b hr.2.1.1 hr.2.1.2).1
    have rA := oz_rh J1 a hr.1.2.2.1 hr.1.2.2.2
    rw [ea, eb] at hf f2 f2'
    rw [eb] at ho
    refine md_divide (by rw [e]; exact oz_rh J1) (fun w => absurd hr w) (fun _ w => absurd ho (by rw [e] at w; exact w)) (fun _ _ w => absurd hf (by rw [e] at w; exact w)) (fun _ _ _ I2 f3 f4 f5 f6 => ?_)
    rw [e] at f5 f6
    refine h2 _ _ _ ⟨oz_r2 J1 hr.1.1 hr.1.2.1 (fun b hb hn hn2 => ?_) (fun r r0 r1 hn hn2 => ?_) (V := om_vq s (om_hd I a) (om_hd I b)) (V2 := om_vr s (om_hd I a) (om_hd I b)) ?_ f5 (om_dq_r _ _) ?_ f6 (oz_dr_r _ _ rA), oz_kk hJ.2 (fun b hb => ?_) (fun _ _ => rfl)⟩
    · rw [f3 b (by omega) (by omega), f1 b hn hn2 (by omega) (by omega) (by omega)]
    · rw [f4 r hn hn2, e]
    · rw [← f2]
      unfold om_cr
      rw [f3 (om_ca qu) (by unfold om_ca; omega) (by unfold om_ca; omega)]
    · rw [← f2']
      unfold om_cr
      rw [f3 (om_ca re) (by unfold om_ca; omega) (by unfold om_ca; omega)]
    · unfold oz_w at hb
      rw [f3 b (by omega) (by omega), f1 b (by unfold om_ca; omega) (by unfold om_ca; omega) (by omega) (by omega) (by omega)]
theorem oz_sD {M : Int → Int → Int} {G : Int → Int} {d D : Int} {X : Int → Int → Int} (hd : 0 ≤ d ∧ d ≤ 12) (h : on_sol M G d D X) : 0 ≤ D ∧ D ≤ 13 := by
  obtain ⟨p, _, _, _, _, h5, _⟩ := h
  have := on_pc_b (p := fun k => !p k) (d + 1).toNat
  omega
theorem pp_solve {sc : Int × (Int → Int)} {s : Int} {q : Nat → Int} {I : Nat → Int → Int} {K1 : Option om_V → om_H → Prop} {K2 : Int → Option om_V → om_H → Prop} {a : Int} {g : Int} {dd : Int} (hs : s = 0 ∨ s = 1) (hJ : oz_J q I) (h1 : ∀ (v : Int) q' I', om_R sc 59 142 0 [.inr (.inl 101), .inl a, .inl g, .inl dd, om_un, om_un] [] (om_O s q', I') (K2 v) → K1 (some (.inl v)) (om_O s q', I')) (h2 : ∀ (v : Int) q' I', oz_J q' I' → K2 v (some (.inl v)) (om_O s q', I')) : om_R sc 59 68 0 [.inr (.inl 0), .inl a, .inl g, .inl dd] [] (om_O s q, I) K1 := by
  have J1 := hJ.1
  obtain ⟨_, J2, J3, J4, J5⟩ := id hJ
  refine or_solve hs (oz_rg J1) (fun hr => h1 _ _ _ ?_) (fun hr ho => h1 _ _ _ ?_) (fun hr ho hf I1 f1 => h1 _ _ _ ?_) (fun hr ho I1 D f1 f2 f3 => h1 _ _ _ ?_)
  · exact md_solve (oz_rh J1) J4.2.2.2.1 (fun _ => h2 _ _ _ hJ) (fun w => absurd w hr) (fun w => absurd w hr) (fun w => absurd w hr)
  · rw [(J1 g hr.2.1.1 hr.2.1.2).1] at ho
    refine md_solve (oz_rh J1) J4.2.2.2.1 (fun w => absurd hr w) (fun _ _ I2 f3 => h2 _ _ _ (oz_kp hJ (fun b hb => ?_) (fun r _ _ => ?_) (fun _ _ => rfl))) (fun _ w => by omega) (fun _ w => by omega)
    · have := oz_w_hi hb
      rw [f3 b (by omega)]
    · rw [oz_hd (f3 102 (by decide))]
  · have e : om_hd I1 = om_hd I := oz_hd (f1 102 (by decide) (by decide) (by omega))
    rw [(J1 a hr.1.1 hr.1.2).1, (J1 g hr.2.1.1 hr.2.1.2).1] at hf
    rw [(J1 g hr.2.1.1 hr.2.1.2).1] at ho
    refine md_solve (by rw [e]; exact oz_rh J1) (by rw [f1 108 (by decide) (by decide) (by omega)]; exact J4.2.2.2.1) (fun w => absurd hr w) (fun _ w => by rw [e] at w; omega) (fun _ _ _ I2 n f3 => h2 _ _ _ (oz_kp hJ (fun b hb => ?_) (fun r _ _ => ?_) (fun k hk => om_qs_ne (by omega)))) (fun _ _ I2 D n _ f5 _ => absurd (by rw [e]; exact hf) (on_sol_nos f5))
    · have := oz_w_hi hb
      rw [f3 b (by omega) (by omega), f1 b (by omega) (by omega) (by omega)]
    · rw [oz_hd (f3 102 (by decide) (by omega)), e]
  · have e : om_hd I1 = om_hd I := oz_hd (f1 102 (by decide) (by decide) (by omega))
    have ea := (J1 a hr.1.1 hr.1.2).1
    have eg := (J1 g hr.2.1.1 hr.2.1.2).1
    rw [ea, eg] at f2
    rw [eg] at ho
    have bD := oz_sD hr.2.2 f2
    refine md_solve (by rw [e]; exact oz_rh J1) (by rw [f1 108 (by decide) (by decide) (by omega)]; exact J4.2.2.2.1) (fun w => absurd hr w) (fun _ w => by rw [e] at w; omega) (fun _ _ w => absurd (by rw [e] at w; exact w) (on_sol_nos f2)) (fun _ _ I2 D2 n f4 f5 f6 => ?_)
    rw [e] at f5
    obtain ⟨eD, eX⟩ := on_sol_uq hr.2.2 f2 f5
    subst eD
    have q1 : ∀ k : Nat, k ≠ 5 → k ≠ 11 → k ≠ 12 → om_qs (om_qs (om_qs q 5 D) 11 D) 12 n k = q k := fun k a b c => by rw [om_qs_ne c, om_qs_ne b, om_qs_ne a]
    have e96 : I2 96 = I1 96 := f4 96 (by decide) (by omega)
    refine h2 _ _ _ ⟨oz_k1 J1 (fun b hb => ?_) (fun r _ _ => ?_), oz_k2 J2 ?_ ?_ (q1 1 (by decide) (by decide) (by decide)) (q1 7 (by decide) (by decide) (by decide)), oz_k3 J3 ?_ ?_ (q1 0 (by decide) (by decide) (by decide)) (q1 10 (by decide) (by decide) (by decide)), ⟨rfl, ?_, by rw [e96]; exact f3, f6, fun i k i0 i1 => by rw [e96]; exact eX i k i0 i1⟩, oz_k5 J5 ?_ ?_ (q1 6 (by decide) (by decide) (by decide))⟩
    · rw [f4 b (by omega) (by omega), f1 b (by omega) (by omega) (by omega)]
    · rw [oz_hd (f4 102 (by decide) (by omega)), e]
    · rw [f4 26 (by decide) (by omega), f1 26 (by decide) (by decide) (by omega)]
    · rw [f4 104 (by decide) (by omega), f1 104 (by decide) (by decide) (by omega)]
    · rw [f4 3 (by decide) (by omega), f1 3 (by decide) (by decide) (by omega)]
    · rw [f4 107 (by decide) (by omega), f1 107 (by decide) (by decide) (by omega)]
    · show -1 ≤ D ∧ D ≤ 13
      omega
    · rw [f4 100 (by decide) (by omega), f1 100 (by decide) (by decide) (by omega)]
    · rw [f4 114 (by decide) (by omega), f1 114 (by decide) (by decide) (by omega)]
theorem pp_pick {sc : Int × (Int → Int)} {s : Int} {q : Nat → Int} {I : Nat → Int → Int} {K1 : Option om_V → om_H → Prop} {K2 : Int → Option om_V → om_H → Prop} {to : Int} {i : Int} (hs : s = 0 ∨ s = 1) (hJ : oz_J q I) (h1 : ∀ (v : Int) q' I', om_R sc 59 149 0 [.inr (.inl 101), .inl to, .inl i, om_un, om_un, om_un] [] (om_O s q', I') (K2 v) → K1 (some (.inl v)) (om_O s q', I')) (h2 : ∀ (v : Int) q' I', oz_J q' I' → K2 v (some (.inl v)) (om_O s q', I')) : om_R sc 59 77 0 [.inr (.inl 0), .inl to, .inl i] [] (om_O s q, I) K1 := by
  have J1 := hJ.1
  obtain ⟨_, J2, J3, J4, J5⟩ := id hJ
  refine or_pick J4.2.1 J4.2.2.1 (fun hr => h1 _ _ _ ?_) (fun hr I1 f1 f2 => h1 _ _ _ ?_)
  · exact md_pick (by rw [J4.1]; exact J4.2.1) (fun _ => h2 _ _ _ hJ) (fun w => absurd (by rw [J4.1] at w; exact w) hr)
  · have e : om_hd I1 = om_hd I := oz_hd (f1 102 (by unfold om_ca; omega))
    have es : om_ms I1 i = om_csol I i := by
      funext j k
      unfold om_ms om_csol
      rw [f1 108 (by unfold om_ca; omega)]
      have b4 := J4.2.1
      by_cases ej : j = 0
      · rw [if_pos ej, J4.2.2.2.2 i k hr.2.1 hr.2.2]
        unfold om_tb
        by_cases ek : 0 ≤ k ∧ k < 13
        · rw [if_pos ⟨ej, ek⟩, if_pos (by omega), Int.mul_comm]
        · rw [if_neg (fun w => ek w.2), if_neg (by omega)]
      · rw [if_neg ej, if_neg (fun w => ej w.1)]
    refine md_pick (by rw [J4.1]; exact J4.2.1) (fun w => absurd (by rw [J4.1]; exact hr) w) (fun _ I2 f3 f4 => ?_)
    rw [es]
    refine h2 _ _ _ ⟨oz_r1 J1 hr.1 (fun b hb hn => ?_) (fun r r0 r1 hn => ?_) (V := om_csol I i) ?_ (by rw [f4, es]) (fun j k => ?_), oz_kk hJ.2 (fun b hb => ?_) (fun _ _ => rfl)⟩
    · rw [f3.1 b (by omega), f1 b hn]
    · rw [f3.2 r hn, e]
    · rw [← f2]
      unfold om_cr
      rw [f3.1 (om_ca to) (by unfold om_ca; omega)]
    · unfold om_csol
      split
      · exact J4.2.2.1 i k
      · decide
    · unfold oz_w at hb
      rw [f3.1 b (by omega), f1 b (by unfold om_ca; omega)]
theorem pp_factor {sc : Int × (Int → Int)} {s : Int} {q : Nat → Int} {I : Nat → Int → Int} {K1 : Option om_V → om_H → Prop} {K2 : Int → Option om_V → om_H → Prop} {a : Int} (hs : s = 0 ∨ s = 1) (hJ : oz_J q I) (h1 : ∀ (v : Int) q' I', om_R sc 59 150 0 [.inr (.inl 101), .inl a, om_un, om_un] [] (om_O s q', I') (K2 v) → K1 (some (.inl v)) (om_O s q', I')) (h2 : ∀ (v : Int) q' I', oz_J q' I' → K2 v (some (.inl v)) (om_O s q', I')) : om_R sc 59 78 0 [.inr (.inl 0), .inl a] [] (om_O s q, I) K1 := by
  have J1 := hJ.1
  obtain ⟨_, J2, J3, J4, J5⟩ := id hJ
  refine or_factor hs (oz_rg J1) (fun hr => h1 _ _ _ ?_) (fun hr ho => h1 _ _ _ ?_) (fun hr ho I1 f1 f2 => h1 _ _ _ ?_)
  · exact md_factor hs (oz_rh J1) (fun _ => h2 _ _ _ hJ) (fun w => absurd w hr) (fun w => absurd w hr)
  · rw [(J1 a hr.1 hr.2).1] at ho
    refine md_factor hs (oz_rh J1) (fun w => absurd hr w) (fun _ _ I2 f3 => h2 _ _ _ (oz_kp hJ (fun b hb => ?_) (fun r _ _ => ?_) (fun _ _ => rfl))) (fun _ w => by omega)
    · have := oz_w_hi hb
      rw [f3 b (by omega)]
    · rw [oz_hd (f3 102 (by decide))]
  · have e : om_hd I1 = om_hd I := oz_hd (f1 102 (by decide) (by decide))
    rw [(J1 a hr.1 hr.2).1] at f2 ho ⊢
    refine md_factor hs (by rw [e]; exact oz_rh J1) (fun w => absurd hr w) (fun _ w => by rw [e] at w; omega) (fun _ _ I2 f3 f4 => ?_)
    rw [e] at f4 ⊢
    have ec : ∀ m : Nat, m ≤ 961 → om_ct (I2 114) m = om_ct (on_fl s (om_hd I a)) m := fun m hm => on_ct_c (fun k k0 k1 => f4 k k0 (by omega))
    have q1 : ∀ k : Nat, k ≠ 6 → om_qs q 6 (om_ct (on_fl s (om_hd I a)) 961) k = q k := fun k hk => om_qs_ne hk
    have fI : ∀ b, b ≠ 99 → b ≠ 100 → b ≠ 103 → b ≠ 114 → b ≠ 115 → b ≠ 116 → b ≠ 117 → I2 b = I b := fun b b1 b2 b3 b4 b5 b6 b7 => by rw [f3 b b3 b4 b5 b6 b7, f1 b b1 b2]
    refine h2 _ _ _ ⟨oz_k1 J1 (fun b hb => fI b (by omega) (by omega) (by omega) (by omega) (by omega) (by omega) (by omega)) (fun r _ _ => ?_), oz_k2 J2 (fI 26 (by decide) (by decide) (by decide) (by decide) (by decide) (by decide) (by decide)) (fI 104 (by decide) (by decide) (by decide) (by decide) (by decide) (by decide) (by decide)) (q1 1 (by decide)) (q1 7 (by decide)), oz_k3 J3 (fI 3 (by decide) (by decide) (by decide) (by decide) (by decide) (by decide) (by decide)) (fI 107 (by decide) (by decide) (by decide) (by decide) (by decide) (by decide) (by decide)) (q1 0 (by decide)) (q1 10 (by decide)), oz_k4 J4 (fI 96 (by decide) (by decide) (by decide) (by decide) (by decide) (by decide) (by decide)) (fI 108 (by decide) (by decide) (by decide) (by decide) (by decide) (by decide) (by decide)) (q1 5 (by decide)) (q1 11 (by decide)), ⟨?_, fun j hj hn => ?_⟩⟩
    · rw [oz_hd (fI 102 (by decide) (by decide) (by decide) (by decide) (by decide) (by decide) (by decide))]
    · rw [ec 961 (Nat.le_refl _)]
      exact om_qs_eq
    · rw [f4 j (by omega) (by omega)] at hn
      rw [ec j (by omega), f3 100 (by decide) (by decide) (by decide) (by decide) (by decide)]
      exact f2 j hj hn
theorem pp_line {sc : Int × (Int → Int)} {s : Int} {q : Nat → Int} {I : Nat → Int → Int} {K1 : Option om_V → om_H → Prop} {K2 : Int → Option om_V → om_H → Prop} {i : Int} (hs : s = 0 ∨ s = 1) (hz : om_Z i) (hJ : oz_J q I) (h1 : ∀ (v : Int) q' I', om_R sc 59 153 0 [.inr (.inl 101), .inl i, om_un, om_un] [] (om_O s q', I') (K2 v) → K1 (some (.inl v)) (om_O s q', I')) (h2 : ∀ (v : Int) q' I', oz_J q' I' → K2 v (some (.inl v)) (om_O s q', I')) : om_R sc 59 84 0 [.inr (.inl 0), .inl i] [] (om_O s q, I) K1 := by
  obtain ⟨J1, J2, J3, J4, J5⟩ := id hJ
  have cb := on_ct_b (f := I 114) 961
  refine or_line (by rw [J5.1]; exact cb) (fun hr => h1 _ _ _ ?_) (fun hr => h1 _ _ _ ?_)
  · refine md_line (fun _ k k1 k2 k3 => ?_) (fun w => by rw [J5.1] at hr; omega) hz
    rw [← k3, J5.2 k k1 k2]
    exact h2 _ _ _ hJ
  · refine md_line (fun i0 k k1 k2 k3 => ?_) (fun _ => h2 _ _ _ hJ) hz
    have := on_ct_lt (f := I 114) k1 k2
    rw [J5.1] at hr
    omega
theorem pp_same {sc : Int × (Int → Int)} {s : Int} {q : Nat → Int} {I : Nat → Int → Int} {K1 : Option om_V → om_H → Prop} {K2 : Int → Option om_V → om_H → Prop} {a : Int} {b : Int} (hs : s = 0 ∨ s = 1) (hJ : oz_J q I) (h1 : ∀ (v : Int) q' I', om_R sc 59 154 0 [.inr (.inl 101), .inl a, .inl b, om_un, om_un] [] (om_O s q', I') (K2 v) → K1 (some (.inl v)) (om_O s q', I')) (h2 : ∀ (v : Int) q' I', oz_J q' I' → K2 v (some (.inl v)) (om_O s q', I')) : om_R sc 59 85 0 [.inr (.inl 0), .inl a, .inl b] [] (om_O s q, I) K1 := by
  have J1 := hJ.1
  refine or_same (fun hr => h1 _ _ _ ?_) (fun hr => h1 _ _ _ ?_)
  · refine md_same (fun _ => h2 _ _ _ hJ) (fun w => absurd ⟨hr.1, hr.2.1, ?_⟩ w)
    rw [← (J1 a hr.1.1 hr.1.2).1, ← (J1 b hr.2.1.1 hr.2.1.2).1]
    exact hr.2.2
  · refine md_same (fun w => absurd ⟨w.1, w.2.1, ?_⟩ hr) (fun _ => h2 _ _ _ hJ)
    rw [(J1 a w.1.1 w.1.2).1, (J1 b w.2.1.1 w.2.1.2).1]
    exact w.2.2
theorem oz_shi {A : Int → Int → Int} : ∀ (i : Nat) (l : List Int), i ≤ 5 → (om_shi A i l).length ≤ l.length + 130 * i
  | 0, l, _ => by simp [om_shi]
  | i + 1, l, h => by
    have h1 := oz_shi (A := A) i (om_shk A i 13 l) (by omega)
    have h2 := om_shk_l (A := A) (i := i) (by omega) 13 l
    show (om_shi A i (om_shk A i 13 l)).length ≤ _
    omega
theorem oz_shw {A : Int → Int → Int} : (om_shw A).length ≤ 650 := by
  unfold om_shw
  split
  · simp
  · have := oz_shi (A := A) 5 [] (by omega)
    simp at this
    exact this
theorem pp_show {sc : Int × (Int → Int)} {s : Int} {q : Nat → Int} {I : Nat → Int → Int} {K1 : Option om_V → om_H → Prop} {K2 : Int → Option om_V → om_H → Prop} {r : Int} (hs : s = 0 ∨ s = 1) (hJ : oz_J q I) (h1 : ∀ (v : Int) q' I', om_R sc 59 155 0 [.inr (.inl 101), .inl r, om_un, om_un, om_un] [] (om_O s q', I') (K2 v) → K1 (some (.inl v)) (om_O s q', I')) (h2 : ∀ (v : Int) q' I', oz_J q' I' → K2 v (some (.inl v)) (om_O s q', I')) : om_R sc 59 87 0 [.inr (.inl 0), .inl r] [] (om_O s q, I) K1 := by
  have J1 := hJ.1
  obtain ⟨_, J2, J3, J4, J5⟩ := id hJ
  refine or_show (oz_rg J1) (fun hr => h1 _ _ _ ?_) (fun hr I1 f1 f2 => h1 _ _ _ ?_)
  · exact md_show (oz_rh J1) (fun _ => h2 _ _ _ hJ) (fun w => absurd w hr)
  · have e : om_hd I1 = om_hd I := oz_hd (f1 102 (by decide))
    rw [(J1 r hr.1 hr.2).1] at f2 ⊢
    refine md_show (by rw [e]; exact oz_rh J1) (fun w => absurd hr w) (fun _ I2 f3 f4 => ?_)
    rw [e] at f4 ⊢
    have lb := oz_shw (A := om_hd I r)
    generalize om_shw (om_hd I r) = l at f2 f4 lb ⊢
    have q1 : ∀ k : Nat, k ≠ 0 → k ≠ 10 → om_qs (om_qs q 0 (l.length : Int)) 10 (l.length : Int) k = q k := fun k a b => by rw [om_qs_ne b, om_qs_ne a]
    have fI : ∀ b, b ≠ 3 → b ≠ 107 → I2 b = I b := fun b b1 b2 => by rw [f3 b b2, f1 b b1]
    refine h2 _ _ _ ⟨fun r' r0 r1 => ?_, oz_k2 J2 (fI 26 (by decide) (by decide)) (fI 104 (by decide) (by decide)) (q1 1 (by decide) (by decide)) (q1 7 (by decide) (by decide)), ⟨rfl, ?_, fun k k0 k1 => ?_⟩, oz_k4 J4 (fI 96 (by decide) (by decide)) (fI 108 (by decide) (by decide)) (q1 5 (by decide) (by decide)) (q1 11 (by decide) (by decide)), oz_k5 J5 (fI 100 (by decide) (by decide)) (fI 114 (by decide) (by decide)) (q1 6 (by decide) (by decide))⟩
    · have e3 : om_cr I2 r' = om_cr I r' := by
        unfold om_cr
        rw [fI (om_ca r') (by unfold om_ca; omega) (by unfold om_ca; omega)]
      rw [e3, oz_hd (fI 102 (by decide) (by decide))]
      exact J1 r' r0 r1
    · show 0 ≤ (l.length : Int) ∧ (l.length : Int) ≤ 650
      omega
    · have k1' : k < (l.length : Int) := k1
      have ek : ((k.toNat : Nat) : Int) = k := Int.toNat_of_nonneg k0
      rw [f3 3 (by decide)]
      have a1 := f2 k.toNat (by omega)
      have a2 := f4 k.toNat (by omega)
      rw [ek] at a1 a2
      rw [a1, a2]
theorem pp_at {sc : Int × (Int → Int)} {s : Int} {q : Nat → Int} {I : Nat → Int → Int} {K1 : Option om_V → om_H → Prop} {K2 : Int → Option om_V → om_H → Prop} {i : Int} (hs : s = 0 ∨ s = 1) (hJ : oz_J q I) (h1 : ∀ (v : Int) q' I', om_R sc 59 159 0 [.inr (.inl 101), .inl i] [] (om_O s q', I') (K2 v) → K1 (some (.inl v)) (om_O s q', I')) (h2 : ∀ (v : Int) q' I', oz_J q' I' → K2 v (some (.inl v)) (om_O s q', I')) : om_R sc 59 93 0 [.inr (.inl 0), .inl i] [] (om_O s q, I) K1 := by
  obtain ⟨J1, J2, J3, J4, J5⟩ := id hJ
  have b3 := J3.2.1
  refine or_at J3.2.1 (fun hr => h1 _ _ _ ?_) (fun hr => h1 _ _ _ ?_)
  · refine md_at (by rw [J3.1]; omega) (fun _ => ?_) (fun w => absurd (by rw [J3.1]; exact hr) w)
    rw [J3.2.2 i hr.1 hr.2]
    exact h2 _ _ _ hJ
  · exact md_at (by rw [J3.1]; omega) (fun w => absurd (by rw [J3.1] at w; exact w) hr) (fun _ => h2 _ _ _ hJ)
theorem pp_type {sc : Int × (Int → Int)} {s : Int} {q : Nat → Int} {I : Nat → Int → Int} {K1 : Option om_V → om_H → Prop} {K2 : Int → Option om_V → om_H → Prop} {c : Int} (hs : s = 0 ∨ s = 1) (hJ : oz_J q I) (h1 : ∀ (v : Int) q' I', om_R sc 59 96 0 [.inr (.inl 101), .inl c] [] (om_O s q', I') (K2 v) → K1 (some (.inl v)) (om_O s q', I')) (h2 : ∀ (v : Int) q' I', oz_J q' I' → K2 v (some (.inl v)) (om_O s q', I')) : om_R sc 59 10 0 [.inr (.inl 0), .inl c] [] (om_O s q, I) K1 := by
  obtain ⟨J1, J2, J3, J4, J5⟩ := id hJ
  have b2 := J2.2.1
  refine or_type J2.2.1 (fun hr => h1 _ _ _ ?_) (fun hr => h1 _ _ _ ?_)
  · exact md_type (by rw [J2.1]; exact J2.2.1) (fun _ => h2 _ _ _ hJ) (fun w => absurd (by rw [J2.1] at w; exact w) hr)
  · have e7 : om_qs q 1 (q 1 + 1) 7 = q 7 := rfl
    refine md_type (by rw [e7, J2.1]; exact J2.2.1) (fun w => absurd (by rw [e7, J2.1]; exact hr) w) (fun _ => ?_)
    rw [e7, J2.1, om_u_ne (show 104 ≠ 26 by decide)]
    have u1 : ∀ b, b ≠ 26 → b ≠ 104 → om_u (om_u I 26 (om_p (I 26) (q 1) c)) 104 (om_p (I 104) (q 1) c) b = I b := fun b b1 b2 => by rw [om_u_ne b2, om_u_ne b1]
    have q1 : ∀ k : Nat, k ≠ 1 → k ≠ 7 → om_qs (om_qs q 1 (q 1 + 1)) 7 (q 1 + 1) k = q k := fun k a b => by rw [om_qs_ne b, om_qs_ne a]
    refine h2 _ _ _ ⟨oz_k1 J1 (fun b hb => u1 b (by omega) (by omega)) (fun r _ _ => by rw [oz_hd (u1 102 (by decide) (by decide))]), ⟨rfl, ?_, fun k k0 k1 => ?_⟩, oz_k3 J3 (u1 3 (by decide) (by decide)) (u1 107 (by decide) (by decide)) (q1 0 (by decide) (by decide)) (q1 10 (by decide) (by decide)), oz_k4 J4 (u1 96 (by decide) (by decide)) (u1 108 (by decide) (by decide)) (q1 5 (by decide) (by decide)) (q1 11 (by decide) (by decide)), oz_k5 J5 (u1 100 (by decide) (by decide)) (u1 114 (by decide) (by decide)) (q1 6 (by decide) (by decide))⟩
    · show 0 ≤ q 1 + 1 ∧ q 1 + 1 ≤ 40
      omega
    · have k1' : k < q 1 + 1 := k1
      rw [om_u_ne (show 26 ≠ 104 by decide), om_u_eq, om_u_eq]
      by_cases ek : k = q 1
      · rw [ek, om_p_eq, om_p_eq]
        exact ⟨rfl, hr.2.1, hr.2.2⟩
      · rw [om_p_ne ek, om_p_ne ek]
        exact J2.2.2 k k0 (by omega)
theorem pp_clear {sc : Int × (Int → Int)} {s : Int} {q : Nat → Int} {I : Nat → Int → Int} {K1 : Option om_V → om_H → Prop} {K2 : Int → Option om_V → om_H → Prop} (hs : s = 0 ∨ s = 1) (hJ : oz_J q I) (h1 : ∀ (v : Int) q' I', om_R sc 59 97 0 [.inr (.inl 101), om_un] [] (om_O s q', I') (K2 v) → K1 (some (.inl v)) (om_O s q', I')) (h2 : ∀ (v : Int) q' I', oz_J q' I' → K2 v (some (.inl v)) (om_O s q', I')) : om_R sc 59 12 0 [.inr (.inl 0)] [] (om_O s q, I) K1 := by
  obtain ⟨J1, J2, J3, J4, J5⟩ := id hJ
  refine or_clear (h1 _ _ _ (md_clear ?_))
  have e7 : om_qs q 1 0 7 = q 1 := J2.1
  rw [e7]
  have q1 : ∀ k : Nat, k ≠ 1 → k ≠ 7 → om_qs (om_qs q 1 0) 7 0 k = q k := fun k a b => by rw [om_qs_ne b, om_qs_ne a]
  refine h2 _ _ _ ⟨J1, ⟨rfl, ?_, fun k k0 k1 => ?_⟩, oz_k3 J3 rfl rfl (q1 0 (by decide) (by decide)) (q1 10 (by decide) (by decide)), oz_k4 J4 rfl rfl (q1 5 (by decide) (by decide)) (q1 11 (by decide) (by decide)), oz_k5 J5 rfl rfl (q1 6 (by decide) (by decide))⟩
  · show (0 : Int) ≤ 0 ∧ (0 : Int) ≤ 40
    decide
  · have k1' : k < 0 := k1
    omega
theorem pp_read {sc : Int × (Int → Int)} {s : Int} {q : Nat → Int} {I : Nat → Int → Int} {K1 : Option om_V → om_H → Prop} {K2 : Int → Option om_V → om_H → Prop} {r : Int} (hs : s = 0 ∨ s = 1) (hJ : oz_J q I) (h1 : ∀ (v : Int) q' I', om_R sc 59 98 0 [.inr (.inl 101), .inl r] [] (om_O s q', I') (K2 v) → K1 (some (.inl v)) (om_O s q', I')) (h2 : ∀ (v : Int) q' I', oz_J q' I' → K2 v (some (.inl v)) (om_O s q', I')) : om_R sc 59 14 0 [.inr (.inl 0), .inl r, om_un] [] (om_O s q, I) K1 := by
  have J1 := hJ.1
  obtain ⟨_, J2, J3, J4, J5⟩ := id hJ
  have ec : ∃ c : Int → Int, ox_cc c (q 1) ∧ ∀ k : Int, 0 ≤ k → k < q 1 → I 26 k = c k := by
    refine ⟨fun k => if 0 ≤ k ∧ k < q 1 then I 26 k else 0, ⟨J2.2.1, fun k hk => if_neg (by omega), fun k => ?_⟩, fun k k0 k1 => (if_pos ⟨k0, k1⟩).symm⟩
    dsimp only
    split
    · rename_i w
      have := J2.2.2 k w.1 w.2
      omega
    · decide
  obtain ⟨c, hc, hI⟩ := ec
  have hT : ∀ (I1 : Nat → Int → Int) p w l, I1 104 = I 104 → ox_ty (ox_q q p w l) I1 c (q 1) := fun I1 p w l e => ⟨J2.1, fun k k0 k1 => by rw [e, ← (J2.2.2 k k0 k1).1]; exact hI k k0 k1⟩
  have hT0 : ox_ty q I c (q 1) := ⟨J2.1, fun k k0 k1 => by rw [← (J2.2.2 k k0 k1).1]; exact hI k k0 k1⟩
  have q1 : ∀ p w l k, k = 0 ∨ k = 1 ∨ k = 5 ∨ k = 6 ∨ k = 7 ∨ k = 10 ∨ k = 11 → ox_q q p w l k = q k := fun p w l k hk => by
    unfold ox_q
    rw [om_qs_ne (by omega), om_qs_ne (by omega), om_qs_ne (by omega)]
  have q2 : ∀ q' lv t k, k = 0 ∨ k = 1 ∨ k = 5 ∨ k = 6 ∨ k = 7 ∨ k = 10 ∨ k = 11 → oy_q q' lv t k = q' k := fun q' lv t k hk => by
    unfold oy_q
    rw [om_qs_ne (by omega), om_qs_ne (by omega)]
  have x23 : ox_f2 s c (q 1) → ox_f3 s c (q 1) → False := fun a b => by
    obtain ⟨r3, e1, e2, e3⟩ := b
    rcases a with a | ⟨r2, e4, e5⟩
    · rw [a] at e1
      cases e1
    · rw [e4] at e1
      injection e1 with e1
      subst e1
      exact e5 e2
  have x20 : ∀ V, ox_f2 s c (q 1) → ox_f0 s c (q 1) V → False := fun V a b => by
    obtain ⟨r3, e1, e2, e3⟩ := b
    rcases a with a | ⟨r2, e4, e5⟩
    · rw [a] at e1
      cases e1
    · rw [e4] at e1
      injection e1 with e1
      subst e1
      exact e5 e2
  have x30 : ∀ V, ox_f3 s c (q 1) → ox_f0 s c (q 1) V → False := fun V a b => by
    obtain ⟨r3, e1, e2, e3, _⟩ := b
    obtain ⟨r2, e4, e5, e6⟩ := a
    rw [e4] at e1
    injection e1 with e1
    subst e1
    exact e6 e3
  refine or_read hs hc ⟨rfl, hI⟩ (fun hr => h1 _ _ _ ?_) (fun hr hf I1 p w l f1 => h1 _ _ _ ?_) (fun hr hf I1 p w l f1 => h1 _ _ _ ?_) (fun hr V hf I1 p w l f1 f2 => h1 _ _ _ ?_)
  · exact md_read hs hc hT0 (fun _ => h2 _ _ _ hJ) (fun w => absurd w hr) (fun w => absurd w hr) (fun w => absurd w hr)
  · have kI : ∀ b, b < 20 ∨ oz_w b → I1 b = I b := fun b hb => by
      have := oz_w_hi hb
      exact f1 b (by omega) (by omega) (by omega)
    exact md_read hs hc (hT I1 p w l (f1 104 (by decide) (by decide) (by omega))) (fun w => absurd hr w) (fun _ _ => h2 _ _ _ (oz_kp hJ kI (fun r _ _ => by rw [oz_hd (f1 102 (by decide) (by decide) (by omega))]) (q1 p w l))) (fun _ w => (x23 hf w).elim) (fun _ V w => (x20 V hf w).elim)
  · refine md_read hs hc (hT I1 p w l (f1 104 (by decide) (by decide) (by omega))) (fun w => absurd hr w) (fun _ w => (x23 w hf).elim) (fun _ _ I2 lv f3 => h2 _ _ _ (oz_kp hJ (fun b hb => ?_) (fun r r0 r1 => ?_) (fun k hk => by rw [q2 _ _ _ k hk, q1 p w l k hk]))) (fun _ V w => (x30 V hf w).elim)
    · have := oz_w_hi hb
      rw [f3.1 b (by omega) (by omega) (by omega) (by omega), f1 b (by omega) (by omega) (by omega)]
    · rw [f3.2.1 r (by omega), oz_hd (f1 102 (by decide) (by decide) (by omega))]
  · have e : om_hd I1 = om_hd I := oz_hd (f1 102 (by unfold om_ca; omega) (by decide) (by decide) (by omega))
    refine md_read hs hc (hT I1 p w l (f1 104 (by unfold om_ca; omega) (by decide) (by decide) (by omega))) (fun w => absurd hr w) (fun _ w => (x20 V w hf).elim) (fun _ w => (x30 V w hf).elim) (fun _ V2 hf2 I2 f3 f4 f5 => ?_)
    obtain ⟨r3, e1, e2, e3, e4⟩ := hf
    obtain ⟨r2, e1', e2', e3', e4'⟩ := hf2
    rw [e1] at e1'
    injection e1' with e1'
    subst e1'
    have ev : V2 = V := e4'.symm.trans e4
    subst ev
    have ok := ox_S_ok (s := s) hc 4 0 0 r3 (by omega) (by have := hc.1; omega) (Or.inl rfl) e1
    refine h2 _ _ _ ⟨oz_r1 J1 hr (fun b hb hn => ?_) (fun r' r0 r1 hn => ?_) (V := V2) ?_ f5 (e4 ▸ ok.2.2.2.2.1), oz_kk hJ.2 (fun b hb => ?_) (fun k hk => by rw [q2 _ _ _ k hk, q1 p w l k hk])⟩
    · rw [f3 b (by omega) (by omega) (by omega) (by omega), f1 b hn (by omega) (by omega) (by omega)]
    · rw [f4 r' r1 hn, e]
    · rw [← f2]
      unfold om_cr
      rw [f3 (om_ca r) (by unfold om_ca; omega) (by unfold om_ca; omega) (by unfold om_ca; omega) (by unfold om_ca; omega)]
    · unfold oz_w at hb
      rw [f3 b (by omega) (by omega) (by omega) (by omega), f1 b (by unfold om_ca; omega) (by omega) (by omega) (by omega)]
