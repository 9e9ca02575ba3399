/-! the law: both sides in step -/
def oz_1 (I : Nat → Int → Int) : Prop := ∀ r, 0 ≤ r → r < 8 → om_cr I r = om_hd I r ∧ om_r31 (om_cr I r)
def oz_2 (q : Nat → Int) (I : Nat → Int → Int) : Prop := q 7 = q 1 ∧ (0 ≤ q 1 ∧ q 1 ≤ 40) ∧ ∀ k : Int, 0 ≤ k → k < q 1 → I 26 k = I 104 k ∧ 33 ≤ I 26 k ∧ I 26 k ≤ 126
def oz_3 (q : Nat → Int) (I : Nat → Int → Int) : Prop := q 10 = q 0 ∧ (0 ≤ q 0 ∧ q 0 ≤ 650) ∧ ∀ k : Int, 0 ≤ k → k < q 0 → I 3 k = I 107 k
def oz_4 (q : Nat → Int) (I : Nat → Int → Int) : Prop := q 11 = q 5 ∧ (-1 ≤ q 5 ∧ q 5 ≤ 13) ∧ om_r31 (om_tb 14 13 (I 96)) ∧ om_r31 (om_tb 14 13 (I 108)) ∧ ∀ i k, 0 ≤ i → i ≤ q 5 → om_tb 14 13 (I 96) i k = om_tb 14 13 (I 108) i k
def oz_5 (q : Nat → Int) (I : Nat → Int → Int) : Prop := q 6 = om_ct (I 114) 961 ∧ ∀ j : Nat, j < 961 → I 114 j ≠ 0 → I 100 (om_ct (I 114) j) = (j : Int)
def oz_J (q : Nat → Int) (I : Nat → Int → Int) : Prop := oz_1 I ∧ oz_2 q I ∧ oz_3 q I ∧ oz_4 q I ∧ oz_5 q I
theorem oz_k1 {I I' : Nat → Int → Int} (h : oz_1 I) (hI : ∀ b, b < 20 → I' b = I b) (hh : ∀ r, 0 ≤ r → r < 8 → om_hd I' r = om_hd I r) : oz_1 I' := by
  intro r r0 r1
  have e : om_cr I' r = om_cr I r := by
    unfold om_cr
    rw [hI (om_ca r) (by unfold om_ca; omega)]
  rw [e, hh r r0 r1]
  exact h r r0 r1
/-- one register changes on both sides -/
theorem oz_r1 {I I' : Nat → Int → Int} {to : Int} {V : Int → Int → Int} (h : oz_1 I) (ht : 0 ≤ to ∧ to < 8) (hI : ∀ b, b < 20 → b ≠ om_ca to → I' b = I b) (hh : ∀ r, 0 ≤ r → r < 8 → r ≠ to → om_hd I' r = om_hd I r) (e1 : om_cr I' to = V) (e2 : om_hd I' to = V) (rV : om_r31 V) : oz_1 I' := by
  intro r r0 r1
  by_cases er : r = to
  · rw [er, e1, e2]
    exact ⟨rfl, rV⟩
  · have e : om_cr I' r = om_cr I r := by
      unfold om_cr
      rw [hI (om_ca r) (by unfold om_ca; omega) (by unfold om_ca; omega)]
    rw [e, hh r r0 r1 er]
    exact h r r0 r1
theorem oz_k2 {q q' : Nat → Int} {I I' : Nat → Int → Int} (h : oz_2 q I) (h1 : I' 26 = I 26) (h2 : I' 104 = I 104) (e1 : q' 1 = q 1) (e7 : q' 7 = q 7) : oz_2 q' I' := by
  unfold oz_2
  rw [h1, h2, e1, e7]
  exact h
theorem oz_k3 {q q' : Nat → Int} {I I' : Nat → Int → Int} (h : oz_3 q I) (h1 : I' 3 = I 3) (h2 : I' 107 = I 107) (e1 : q' 0 = q 0) (e7 : q' 10 = q 10) : oz_3 q' I' := by
  unfold oz_3
  rw [h1, h2, e1, e7]
  exact h
theorem oz_k4 {q q' : Nat → Int} {I I' : Nat → Int → Int} (h : oz_4 q I) (h1 : I' 96 = I 96) (h2 : I' 108 = I 108) (e1 : q' 5 = q 5) (e7 : q' 11 = q 11) : oz_4 q' I' := by
  unfold oz_4
  rw [h1, h2, e1, e7]
  exact h
theorem oz_k5 {q q' : Nat → Int} {I I' : Nat → Int → Int} (h : oz_5 q I) (h1 : I' 100 = I 100) (h2 : I' 114 = I 114) (e1 : q' 6 = q 6) : oz_5 q' I' := by
  unfold oz_5
  rw [h1, h2, e1]
  exact h
def oz_w (b : Nat) : Prop := b = 3 ∨ b = 26 ∨ b = 96 ∨ b = 100 ∨ b = 104 ∨ b = 107 ∨ b = 108 ∨ b = 114
theorem oz_kk {q q' : Nat → Int} {I I' : Nat → Int → Int} (h : oz_2 q I ∧ oz_3 q I ∧ oz_4 q I ∧ oz_5 q I) (hI : ∀ b, oz_w b → I' b = I b) (hq : ∀ k, k = 0 ∨ k = 1 ∨ k = 5 ∨ k = 6 ∨ k = 7 ∨ k = 10 ∨ k = 11 → q' k = q k) : oz_2 q' I' ∧ oz_3 q' I' ∧ oz_4 q' I' ∧ oz_5 q' I' :=
  ⟨oz_k2 h.1 (hI 26 (by unfold oz_w; omega)) (hI 104 (by unfold oz_w; omega)) (hq 1 (by omega)) (hq 7 (by omega)), oz_k3 h.2.1 (hI 3 (by unfold oz_w; omega)) (hI 107 (by unfold oz_w; omega)) (hq 0 (by omega)) (hq 10 (by omega)), oz_k4 h.2.2.1 (hI 96 (by unfold oz_w; omega)) (hI 108 (by unfold oz_w; omega)) (hq 5 (by omega)) (hq 11 (by omega)), oz_k5 h.2.2.2 (hI 100 (by unfold oz_w; omega)) (hI 114 (by unfold oz_w; omega)) (hq 6 (by omega))⟩
theorem oz_kp {q q' : Nat → Int} {I I' : Nat → Int → Int} (h : oz_J q I) (hI : ∀ b, b < 20 ∨ oz_w b → I' b = I b) (hh : ∀ r, 0 ≤ r → r < 8 → om_hd I' r = om_hd I r) (hq : ∀ k, k = 0 ∨ k = 1 ∨ k = 5 ∨ k = 6 ∨ k = 7 ∨ k = 10 ∨ k = 11 → q' k = q k) : oz_J q' I' :=
  ⟨oz_k1 h.1 (fun b hb => hI b (Or.inl hb)) hh, oz_kk h.2 (fun b hb => hI b (Or.inr hb)) hq⟩
theorem oz_hd {I I' : Nat → Int → Int} (h : I' 102 = I 102) : om_hd I' = om_hd I := by
  funext r i k
  unfold om_hd
  rw [h]
theorem oz_rg {I : Nat → Int → Int} (h : oz_1 I) : ∀ r, 0 ≤ r → r < 8 → om_r31 (om_cr I r) := fun r a b => (h r a b).2
theorem oz_rh {I : Nat → Int → Int} (h : oz_1 I) : ∀ r, 0 ≤ r → r < 8 → om_r31 (om_hd I r) := fun r a b => (h r a b).1 ▸ (h r a b).2
theorem oz_w_hi {b : Nat} (h : b < 20 ∨ oz_w b) : b ≠ 22 ∧ b ≠ 24 ∧ (b < 32 ∨ 70 < b) ∧ b ≠ 73 ∧ b ≠ 75 ∧ b ≠ 77 ∧ (b < 79 ∨ 88 < b) ∧ (b < 90 ∨ 94 < b) ∧ b ≠ 99 ∧ b ≠ 102 ∧ b ≠ 103 ∧ b ≠ 105 ∧ b ≠ 106 ∧ (b < 109 ∨ 113 < b) ∧ b ≠ 115 ∧ b ≠ 116 ∧ b ≠ 117 := by
  unfold oz_w at h
  omega
theorem pp_order {sc : Int × (Int → Int)} {s : Int} {q : Nat → Int} {I : Nat → Int → Int} {K1 : Option om_V → om_H → Prop} {K2 : Int → Option om_V → om_H → Prop} {r : Int} (hs : s = 0 ∨ s = 1) (hJ : oz_J q I) (h1 : ∀ (v : Int) q' I', om_R sc 59 128 0 [.inr (.inl 101), .inl r] [] (om_O s q', I') (K2 v) → K1 (some (.inl v)) (om_O s q', I')) (h2 : ∀ (v : Int) q' I', oz_J q' I' → K2 v (some (.inl v)) (om_O s q', I')) : om_R sc 59 46 0 [.inr (.inl 0), .inl r] [] (om_O s q, I) K1 := by
  have J1 := hJ.1
  refine or_order (fun hr => h1 _ _ _ ?_) (fun hr => h1 _ _ _ ?_)
  · refine md_order (fun w => absurd hr w) (fun _ I1 f1 => ?_)
    rw [← (J1 r hr.1 hr.2).1]
    exact h2 _ _ _ (oz_kp hJ (fun b hb => f1.1 b (oz_w_hi hb).2.2.2.2.2.2.2.2.2.2.1) (fun r _ _ => by rw [om_fr_hd f1]) (fun _ _ => rfl))
  · exact md_order (fun _ => h2 _ _ _ hJ) (fun w => absurd w hr)
theorem pp_coefficient {sc : Int × (Int → Int)} {s : Int} {q : Nat → Int} {I : Nat → Int → Int} {K1 : Option om_V → om_H → Prop} {K2 : Int → Option om_V → om_H → Prop} {r : Int} {i : Int} {k : Int} (hs : s = 0 ∨ s = 1) (hJ : oz_J q I) (h1 : ∀ (v : Int) q' I', om_R sc 59 129 0 [.inr (.inl 101), .inl r, .inl i, .inl k] [] (om_O s q', I') (K2 v) → K1 (some (.inl v)) (om_O s q', I')) (h2 : ∀ (v : Int) q' I', oz_J q' I' → K2 v (some (.inl v)) (om_O s q', I')) : om_R sc 59 47 0 [.inr (.inl 0), .inl r, .inl i, .inl k] [] (om_O s q, I) K1 := by
  have J1 := hJ.1
  refine or_coefficient (fun hr => h1 _ _ _ ?_) (fun hr => h1 _ _ _ ?_)
  · refine md_coefficient (fun _ => ?_) (fun w => absurd hr w)
    rw [← (J1 r hr.1.1 hr.1.2).1]
    exact h2 _ _ _ hJ
  · exact md_coefficient (fun w => absurd w hr) (fun _ => h2 _ _ _ hJ)
theorem pp_add {sc : Int × (Int → Int)} {s : Int} {q : Nat → Int} {I : Nat → Int → Int} {K1 : Option om_V → om_H → Prop} {K2 : Int → Option om_V → om_H → Prop} {to : Int} {a : Int} {b : Int} {t : Int} (hs : s = 0 ∨ s = 1) (hJ : oz_J q I) (h1 : ∀ (v : Int) q' I', om_R sc 59 130 0 [.inr (.inl 101), .inl to, .inl a, .inl b, .inl t, om_un] [] (om_O s q', I') (K2 v) → K1 (some (.inl v)) (om_O s q', I')) (h2 : ∀ (v : Int) q' I', oz_J q' I' → K2 v (some (.inl v)) (om_O s q', I')) : om_R sc 59 48 0 [.inr (.inl 0), .inl to, .inl a, .inl b, .inl t, om_un] [] (om_O s q, I) K1 := by
  have J1 := hJ.1
  refine or_add (oz_rg J1) (fun hr => h1 _ _ _ ?_) (fun hr I1 f1 f2 => h1 _ _ _ ?_)
  · exact md_add (oz_rh J1) (fun _ => h2 _ _ _ hJ) (fun w => absurd w hr)
  · have e : om_hd I1 = om_hd I := oz_hd (f1 102 (by unfold om_ca; omega) (by decide))
    refine md_add (by rw [e]; exact oz_rh J1) (fun w => absurd hr w) (fun _ I2 f3 f4 => h2 _ _ _ ⟨oz_r1 J1 hr.1.1 (fun b hb hn => ?_) (fun r r0 r1 hn => ?_) (V := om_ad (om_cr I a) (om_cr I b) t) ?_ ?_ ox_ad_r, oz_kk hJ.2 (fun b hb => ?_) (fun _ _ => rfl)⟩)
    · rw [f3.1 b (by omega), f1 b hn (by omega)]
    · rw [f3.2 r hn, e]
    · rw [← f2]
      unfold om_cr
      rw [f3.1 (om_ca to) (by unfold om_ca; omega)]
    · rw [f4, e, (J1 a hr.1.2.1.1 hr.1.2.1.2).1, (J1 b hr.1.2.2.1 hr.1.2.2.2).1]
    · unfold oz_w at hb
      rw [f3.1 b (by omega), f1 b (by unfold om_ca; omega) (by omega)]
theorem pp_multiply {sc : Int × (Int → Int)} {s : Int} {q : Nat → Int} {I : Nat → Int → Int} {K1 : Option om_V → om_H → Prop} {K2 : Int → Option om_V → om_H → Prop} {to : Int} {a : Int} {b : Int} (hs : s = 0 ∨ s = 1) (hJ : oz_J q I) (h1 : ∀ (v : Int) q' I', om_R sc 59 131 0 [.inr (.inl 101), .inl to, .inl a, .inl b] [] (om_O s q', I') (K2 v) → K1 (some (.inl v)) (om_O s q', I')) (h2 : ∀ (v : Int) q' I', oz_J q' I' → K2 v (some (.inl v)) (om_O s q', I')) : om_R sc 59 52 0 [.inr (.inl 0), .inl to, .inl a, .inl b] [] (om_O s q, I) K1 := by
  have J1 := hJ.1
  refine or_multiply hs (oz_rg J1) (fun hr => h1 _ _ _ ?_) (fun hr hf I1 f1 => h1 _ _ _ ?_) (fun hr hf I1 f1 f2 => h1 _ _ _ ?_)
  · exact md_multiply hs (oz_rh J1) (fun _ => h2 _ _ _ hJ) (fun w => absurd w hr) (fun w => absurd w hr)
  · have e : om_hd I1 = om_hd I := oz_hd (f1 102 (by decide) (by decide))
    rw [(J1 a hr.2.1.1 hr.2.1.2).1, (J1 b hr.2.2.1 hr.2.2.2).1] at hf
    refine md_multiply hs (by rw [e]; exact oz_rh J1) (fun w => absurd hr w) (fun _ _ I2 f3 => h2 _ _ _ (oz_kp hJ (fun b hb => ?_) (fun r _ _ => ?_) (fun _ _ => rfl))) (fun _ w => absurd (by rw [e] at w; exact w) hf)
    · have := oz_w_hi hb
      rw [f3 b (by omega), f1 b (by omega) (by omega)]
    · rw [oz_hd (f3 102 (by decide)), e]
  · have e : om_hd I1 = om_hd I := oz_hd (f1 102 (by unfold om_ca; omega) (by decide) (by decide))
    have ea := (J1 a hr.2.1.1 hr.2.1.2).1
    have eb := (J1 b hr.2.2.1 hr.2.2.2).1
    rw [ea, eb] at hf f2
    refine md_multiply hs (by rw [e]; exact oz_rh J1) (fun w => absurd hr w) (fun _ w => absurd hf (by rw [e] at w; exact w)) (fun _ _ I2 f3 f4 f5 => h2 _ _ _ ⟨oz_r1 J1 hr.1 (fun b hb hn => ?_) (fun r r0 r1 hn => ?_) (V := om_mlt s (om_hd I a) (om_hd I b)) ?_ ?_ om_mlt_r, oz_kk hJ.2 (fun b hb => ?_) (fun _ _ => rfl)⟩)
    · rw [f3 b (by omega) (by omega), f1 b hn (by omega) (by omega)]
    · rw [f4 r hn, e]
    · rw [← f2]
      unfold om_cr
      rw [f3 (om_ca to) (by unfold om_ca; omega) (by unfold om_ca; omega)]
    · rw [f5, e]
    · unfold oz_w at hb
      rw [f3 b (by omega) (by omega), f1 b (by unfold om_ca; omega) (by omega) (by omega)]
theorem pp_apply {sc : Int × (Int → Int)} {s : Int} {q : Nat → Int} {I : Nat → Int → Int} {K1 : Option om_V → om_H → Prop} {K2 : Int → Option om_V → om_H → Prop} {to : Int} {a : Int} {f : Int} (hs : s = 0 ∨ s = 1) (hJ : oz_J q I) (h1 : ∀ (v : Int) q' I', om_R sc 59 132 0 [.inr (.inl 101), .inl to, .inl a, .inl f] [] (om_O s q', I') (K2 v) → K1 (some (.inl v)) (om_O s q', I')) (h2 : ∀ (v : Int) q' I', oz_J q' I' → K2 v (some (.inl v)) (om_O s q', I')) : om_R sc 59 53 0 [.inr (.inl 0), .inl to, .inl a, .inl f] [] (om_O s q, I) K1 := by
  have J1 := hJ.1
  refine or_apply hs (oz_rg J1) (fun hr => h1 _ _ _ ?_) (fun hr ho => h1 _ _ _ ?_) (fun hr ho hf I1 f1 => h1 _ _ _ ?_) (fun hr ho hf I1 f1 f2 => h1 _ _ _ ?_)
  · exact md_apply hs (oz_rh J1) (fun _ => h2 _ _ _ hJ) (fun w => absurd w hr) (fun w => absurd w hr) (fun w => absurd w hr)
  · rw [(J1 f hr.2.2.1 hr.2.2.2).1] at ho
    refine md_apply hs (oz_rh J1) (fun w => absurd hr w) (fun _ _ I2 f3 => h2 _ _ _ (oz_kp hJ (fun b hb => ?_) (fun r _ _ => ?_) (fun _ _ => rfl))) (fun _ w => by omega) (fun _ w => by omega)
    · have := oz_w_hi hb
      rw [f3 b (by omega)]
    · rw [oz_hd (f3 102 (by decide))]
  · have e : om_hd I1 = om_hd I := oz_hd (f1 102 (by decide) (by decide))
    rw [(J1 a hr.2.1.1 hr.2.1.2).1, (J1 f hr.2.2.1 hr.2.2.2).1] at hf
    rw [(J1 f hr.2.2.1 hr.2.2.2).1] at ho
    refine md_apply hs (by rw [e]; exact oz_rh J1) (fun w => absurd hr w) (fun _ w => by rw [e] at w; omega) (fun _ _ _ I2 f3 => h2 _ _ _ (oz_kp hJ (fun b hb => ?_) (fun r _ _ => ?_) (fun _ _ => rfl))) (fun _ _ w => absurd (by rw [e] at w; exact w) hf)
    · have := oz_w_hi hb
      rw [f3 b (by omega), f1 b (by omega) (by omega)]
    · rw [oz_hd (f3 102 (by decide)), e]
  · have e : om_hd I1 = om_hd I := oz_hd (f1 102 (by unfold om_ca; omega) (by decide) (by decide))
    have ea := (J1 a hr.2.1.1 hr.2.1.2).1
    have eb := (J1 f hr.2.2.1 hr.2.2.2).1
    rw [ea, eb] at hf f2
    rw [eb] at ho
    refine md_apply hs (by rw [e]; exact oz_rh J1) (fun w => absurd hr w) (fun _ w => by rw [e] at w; omega) (fun _ _ w => absurd hf (by rw [e] at w; exact w)) (fun _ _ _ I2 f3 f4 f5 => h2 _ _ _ ⟨oz_r1 J1 hr.1 (fun b hb hn => ?_) (fun r r0 r1 hn => ?_) (V := om_img s (om_hd I a) (om_r0 (om_hd I f)) 5) ?_ ?_ (om_img_r 5), oz_kk hJ.2 (fun b hb => ?_) (fun _ _ => rfl)⟩)
    · rw [f3 b (by omega) (by omega), f1 b hn (by omega) (by omega)]
    · rw [f4 r hn, e]
    · rw [← f2]
      unfold om_cr
      rw [f3 (om_ca to) (by unfold om_ca; omega) (by unfold om_ca; omega)]
    · rw [f5, e]
    · unfold oz_w at hb
      rw [f3 b (by omega) (by omega), f1 b (by unfold om_ca; omega) (by omega) (by omega)]
theorem pp_over {sc : Int × (Int → Int)} {s : Int} {q : Nat → Int} {I : Nat → Int → Int} {K1 : Option om_V → om_H → Prop} {K2 : Int → Option om_V → om_H → Prop} {to : Int} {a : Int} {b : Int} (hs : s = 0 ∨ s = 1) (hJ : oz_J q I) (h1 : ∀ (v : Int) q' I', om_R sc 59 138 0 [.inr (.inl 101), .inl to, .inl a, .inl b, om_un, om_un, om_un] [] (om_O s q', I') (K2 v) → K1 (some (.inl v)) (om_O s q', I')) (h2 : ∀ (v : Int) q' I', oz_J q' I' → K2 v (some (.inl v)) (om_O s q', I')) : om_R sc 59 62 0 [.inr (.inl 0), .inl to, .inl a, .inl b, om_un, om_un] [] (om_O s q, I) K1 := by
  have J1 := hJ.1
  refine or_over hs (oz_rg J1) (fun hr => h1 _ _ _ ?_) (fun hr ho => h1 _ _ _ ?_) (fun hr ho hf I1 f1 => h1 _ _ _ ?_) (fun hr ho hf I1 f1 f2 => h1 _ _ _ ?_)
  · exact md_over hs (oz_rh J1) (fun _ => h2 _ _ _ hJ) (fun w => absurd w hr) (fun w => absurd w hr) (fun w => absurd w hr)
  · rw [(J1 a hr.2.1.1 hr.2.1.2).1, (J1 b hr.2.2.1 hr.2.2.2).1] at ho
    refine md_over hs (oz_rh J1) (fun w => absurd hr w) (fun _ _ I2 f3 => h2 _ _ _ (oz_kp hJ (fun b hb => ?_) (fun r _ _ => ?_) (fun _ _ => rfl))) (fun _ w => absurd w ho) (fun _ w => absurd w ho)
    · have := oz_w_hi hb
      rw [f3 b (by omega)]
    · rw [oz_hd (f3 102 (by decide))]
  · have e : om_hd I1 = om_hd I := oz_hd (f1 102 (by omega))
    rw [(J1 a hr.2.1.1 hr.2.1.2).1, (J1 b hr.2.2.1 hr.2.2.2).1] at hf ho
    refine md_over hs (by rw [e]; exact oz_rh J1) (fun w => absurd hr w) (fun _ w => absurd ho (by rw [e] at w; exact w)) (fun _ _ _ I2 f3 => h2 _ _ _ (oz_kp hJ (fun b hb => ?_) (fun r _ _ => ?_) (fun _ _ => rfl))) (fun _ _ w => absurd (by rw [e] at w; exact w) hf)
    · have := oz_w_hi hb
      rw [f3 b (by omega), f1 b (by omega)]
    · rw [oz_hd (f3 102 (by decide)), e]
  · have e : om_hd I1 = om_hd I := oz_hd (f1 102 (by unfold om_ca; omega) (by omega))
    have ea := (J1 a hr.2.1.1 hr.2.1.2).1
    have eb := (J1 b hr.2.2.1 hr.2.2.2).1
    rw [ea, eb] at hf f2 ho
    rw [ea, eb]
    refine md_over hs (by rw [e]; exact oz_rh J1) (fun w => absurd hr w) (fun _ w => absurd ho (by rw [e] at w; exact w)) (fun _ _ w => absurd hf (by rw [e] at w; exact w)) (fun _ _ _ I2 f3 f4 f5 => ?_)
    rw [e]
    rw [e] at f5
    refine h2 _ _ _ ⟨oz_r1 J1 hr.1 (fun b hb hn => ?_) (fun r r0 r1 hn => ?_) (V := on_oR s (om_hd I a) (om_hd I b)) ?_ f5 (on_ov_r _), oz_kk hJ.2 (fun b hb => ?_) (fun _ _ => rfl)⟩
    · rw [f3 b (by omega) (by omega), f1 b hn (by omega)]
    · rw [f4 r hn, e]
    · rw [← f2]
      unfold om_cr
      rw [f3 (om_ca to) (by unfold om_ca; omega) (by unfold om_ca; omega)]
    · unfold oz_w at hb
      rw [f3 b (by omega) (by omega), f1 b (by unfold om_ca; omega) (by omega)]
