theorem x_Lw_law_3 {sc : Int × (Int → Int)} {d : Nat} {v : om_V} {L st : List om_V} {h : om_H} {Q : Option om_V → om_H → Prop} : om_R sc d 0 3 L (v :: st) h Q = om_R sc d 0 4 L (v :: v :: st) h Q := om_q_dup rfl
theorem x_Lw_law_4 {sc : Int × (Int → Int)} {d : Nat} {l1 l2 l3 : om_V} {st : List om_V} {h : om_H} {Q : Option om_V → om_H → Prop} : om_R sc d 0 4 [.inr (.inr 2), l1, l2, l3] st h Q = om_R sc d 0 5 [.inr (.inr 2), l1, l2, l3] (.inr (.inr 2) :: st) h Q := om_q_sload_n rfl rfl
theorem x_Lw_law_5 {sc : Int × (Int → Int)} {d : Nat} {L st : List om_V} {h : om_H} {Q : Option om_V → om_H → Prop} : om_R sc d 0 5 L st h Q = om_R sc d 0 6 L (.inl 0 :: st) h Q := om_q_iconst rfl (by decide)
theorem x_Lw_law_6 {sc : Int × (Int → Int)} {d : Nat} {x1 x2 : om_V} {L st : List om_V} {h : om_H} {Q : Option om_V → om_H → Prop} : om_R sc (d + 1) 0 6 L (x2 :: x1 :: st) h Q = (st.length ≤ 8 ∧ om_R sc d 94 0 [x1, x2] [] h (fun v h' => om_R sc (d + 1) 0 9 L (v.toList ++ st) h' Q)) := om_q_stat (n := 2) rfl rfl rfl (by simp)
theorem x_Lw_law_12 {sc : Int × (Int → Int)} {d : Nat} {l0 l1 l2 l3 : om_V} {a : Nat} {st : List om_V} {h : om_H} {Q : Option om_V → om_H → Prop} : om_R sc d 0 12 [l0, l1, l2, l3] (.inr (.inl a) :: st) h Q = om_R sc d 0 13 [l0, .inr (.inl a), l2, l3] st h Q := om_q_astore_n (i := 1) rfl (show 1 < 4 by decide)
theorem x_Lw_law_16 {sc : Int × (Int → Int)} {d : Nat} {v : om_V} {L st : List om_V} {h : om_H} {Q : Option om_V → om_H → Prop} : om_R sc d 0 16 L (v :: st) h Q = om_R sc d 0 17 L (v :: v :: st) h Q := om_q_dup rfl
theorem x_Lw_law_17 {sc : Int × (Int → Int)} {d : Nat} {l1 l2 l3 : om_V} {st : List om_V} {h : om_H} {Q : Option om_V → om_H → Prop} : om_R sc d 0 17 [.inr (.inr 2), l1, l2, l3] st h Q = om_R sc d 0 18 [.inr (.inr 2), l1, l2, l3] (.inr (.inr 2) :: st) h Q := om_q_sload_n rfl rfl
theorem x_Lw_law_18 {sc : Int × (Int → Int)} {d : Nat} {L st : List om_V} {h : om_H} {Q : Option om_V → om_H → Prop} : om_R sc d 0 18 L st h Q = om_R sc d 0 19 L (.inl 0 :: st) h Q := om_q_iconst rfl (by decide)
theorem x_Lw_law_19 {sc : Int × (Int → Int)} {d : Nat} {x1 x2 : om_V} {L st : List om_V} {h : om_H} {Q : Option om_V → om_H → Prop} : om_R sc (d + 1) 0 19 L (x2 :: x1 :: st) h Q = (st.length ≤ 8 ∧ om_R sc d 94 0 [x1, x2] [] h (fun v h' => om_R sc (d + 1) 0 22 L (v.toList ++ st) h' Q)) := om_q_stat (n := 2) rfl rfl rfl (by simp)
theorem x_Lw_law_25 {sc : Int × (Int → Int)} {d : Nat} {l0 l1 l2 l3 : om_V} {a : Nat} {st : List om_V} {h : om_H} {Q : Option om_V → om_H → Prop} : om_R sc d 0 25 [l0, l1, l2, l3] (.inr (.inl a) :: st) h Q = om_R sc d 0 26 [l0, l1, .inr (.inl a), l3] st h Q := om_q_astore_n (i := 2) rfl (show 2 < 4 by decide)
theorem x_Lw_law_26 {sc : Int × (Int → Int)} {d : Nat} {L st : List om_V} {h : om_H} {Q : Option om_V → om_H → Prop} : om_R sc d 0 26 L st h Q = om_R sc d 0 27 L (.inl 1 :: st) h Q := om_q_iconst rfl (by decide)
theorem x_Lw_law_27 {sc : Int × (Int → Int)} {d : Nat} {l0 l1 l2 l3 : om_V} {z : Int} {st : List om_V} {h : om_H} {Q : Option om_V → om_H → Prop} : om_R sc d 0 27 [l0, l1, l2, l3] (.inl z :: st) h Q = om_R sc d 0 28 [l0, l1, l2, .inl z] st h Q := om_q_istore_n (i := 3) rfl (show 3 < 4 by decide)
theorem x_Lw_law_28 {sc : Int × (Int → Int)} {d : Nat} {l0 l1 l2 : om_V} {z : Int} {st : List om_V} {h : om_H} {Q : Option om_V → om_H → Prop} : om_R sc d 0 28 [l0, l1, l2, .inl z] st h Q = om_R sc d 0 29 [l0, l1, l2, .inl z] (.inl z :: st) h Q := om_q_iload_n rfl rfl
theorem x_Lw_law_29 {sc : Int × (Int → Int)} {d : Nat} {l1 l2 l3 : om_V} {st : List om_V} {h : om_H} {Q : Option om_V → om_H → Prop} : om_R sc d 0 29 [.inr (.inr 2), l1, l2, l3] st h Q = om_R sc d 0 30 [.inr (.inr 2), l1, l2, l3] (.inr (.inr 2) :: st) h Q := om_q_sload_n rfl rfl
theorem x_Lw_law_30 {sc : Int × (Int → Int)} {d : Nat} {L st : List om_V} {h : om_H} {Q : Option om_V → om_H → Prop} : om_R sc d 0 30 L (.inr (.inr 2) :: st) h Q = (om_Z sc.1 ∧ om_R sc d 0 31 L (.inl sc.1 :: st) h Q) := om_q_slen rfl
theorem x_Lw_law_31 {sc : Int × (Int → Int)} {d : Nat} {L st : List om_V} {h : om_H} {Q : Option om_V → om_H → Prop} : om_R sc d 0 31 L st h Q = om_R sc d 0 32 L (.inl 5 :: st) h Q := om_q_iconst rfl (by decide)
theorem x_Lw_law_32 {sc : Int × (Int → Int)} {d : Nat} {x y : Int} {L st : List om_V} {h : om_H} {Q : Option om_V → om_H → Prop} : om_R sc d 0 32 L (.inl y :: .inl x :: st) h Q = (om_Z (x - y) ∧ om_R sc d 0 33 L (.inl (x - y) :: st) h Q) := om_q_isub rfl
theorem x_Lw_law_33 {sc : Int × (Int → Int)} {d : Nat} {x y : Int} {L st : List om_V} {h : om_H} {Q : Option om_V → om_H → Prop} : om_R sc d 0 33 L (.inl y :: .inl x :: st) h Q = (if y < x then om_R sc d 0 693 L st h Q else om_R sc d 0 36 L st h Q) := om_q_icgt rfl rfl
theorem x_Lw_law_36 {sc : Int × (Int → Int)} {d : Nat} {l1 l2 l3 : om_V} {st : List om_V} {h : om_H} {Q : Option om_V → om_H → Prop} : om_R sc d 0 36 [.inr (.inr 2), l1, l2, l3] st h Q = om_R sc d 0 37 [.inr (.inr 2), l1, l2, l3] (.inr (.inr 2) :: st) h Q := om_q_sload_n rfl rfl
theorem x_Lw_law_37 {sc : Int × (Int → Int)} {d : Nat} {l0 l1 l2 : om_V} {z : Int} {st : List om_V} {h : om_H} {Q : Option om_V → om_H → Prop} : om_R sc d 0 37 [l0, l1, l2, .inl z] st h Q = om_R sc d 0 38 [l0, l1, l2, .inl z] (.inl z :: st) h Q := om_q_iload_n rfl rfl
theorem x_Lw_law_38 {sc : Int × (Int → Int)} {d : Nat} {z : Int} {L st : List om_V} {h : om_H} {Q : Option om_V → om_H → Prop} : om_R sc d 0 38 L (.inl z :: .inr (.inr 2) :: st) h Q = ((0 ≤ z ∧ z < sc.1) ∧ om_R sc d 0 39 L (.inl (sc.2 z) :: st) h Q) := om_q_sald rfl
theorem x_Lw_law_39 {sc : Int × (Int → Int)} {d : Nat} {L st : List om_V} {h : om_H} {Q : Option om_V → om_H → Prop} : om_R sc d 0 39 L st h Q = om_R sc d 0 41 L (.inl 31 :: st) h Q := om_q_bipush rfl (by decide)
theorem x_Lw_law_41 {sc : Int × (Int → Int)} {d : Nat} {x : Int} {L st : List om_V} {h : om_H} {Q : Option om_V → om_H → Prop} : om_R sc d 0 41 L (.inl 31 :: .inl x :: st) h Q = om_R sc d 0 42 L (.inl (x % 32) :: st) h Q := om_q_iand rfl
theorem x_Lw_law_124 {sc : Int × (Int → Int)} {d : Nat} {l0 l2 l3 : om_V} {a : Nat} {st : List om_V} {h : om_H} {Q : Option om_V → om_H → Prop} : om_R sc d 0 124 [l0, .inr (.inl a), l2, l3] st h Q = om_R sc d 0 125 [l0, .inr (.inl a), l2, l3] (.inr (.inl a) :: st) h Q := om_q_aload_n rfl rfl
theorem x_Lw_law_125 {sc : Int × (Int → Int)} {d : Nat} {l1 l2 l3 : om_V} {st : List om_V} {h : om_H} {Q : Option om_V → om_H → Prop} : om_R sc d 0 125 [.inr (.inr 2), l1, l2, l3] st h Q = om_R sc d 0 126 [.inr (.inr 2), l1, l2, l3] (.inr (.inr 2) :: st) h Q := om_q_sload_n rfl rfl
theorem x_Lw_law_126 {sc : Int × (Int → Int)} {d : Nat} {l0 l1 l2 : om_V} {z : Int} {st : List om_V} {h : om_H} {Q : Option om_V → om_H → Prop} : om_R sc d 0 126 [l0, l1, l2, .inl z] st h Q = om_R sc d 0 127 [l0, l1, l2, .inl z] (.inl z :: st) h Q := om_q_iload_n rfl rfl
theorem x_Lw_law_127 {sc : Int × (Int → Int)} {d : Nat} {L st : List om_V} {h : om_H} {Q : Option om_V → om_H → Prop} : om_R sc d 0 127 L st h Q = om_R sc d 0 128 L (.inl 1 :: st) h Q := om_q_iconst rfl (by decide)
theorem x_Lw_law_128 {sc : Int × (Int → Int)} {d : Nat} {x y : Int} {L st : List om_V} {h : om_H} {Q : Option om_V → om_H → Prop} : om_R sc d 0 128 L (.inl y :: .inl x :: st) h Q = (om_Z (x + y) ∧ om_R sc d 0 129 L (.inl (x + y) :: st) h Q) := om_q_iadd rfl
theorem x_Lw_law_129 {sc : Int × (Int → Int)} {d : Nat} {z : Int} {L st : List om_V} {h : om_H} {Q : Option om_V → om_H → Prop} : om_R sc d 0 129 L (.inl z :: .inr (.inr 2) :: st) h Q = ((0 ≤ z ∧ z < sc.1) ∧ om_R sc d 0 130 L (.inl (sc.2 z) :: st) h Q) := om_q_sald rfl
theorem x_Lw_law_130 {sc : Int × (Int → Int)} {d : Nat} {x : Int} {L st : List om_V} {h : om_H} {Q : Option om_V → om_H → Prop} : om_R sc d 0 130 L (.inl x :: st) h Q = om_R sc d 0 131 L (.inl (x % 65536) :: st) h Q := om_q_i2c rfl
theorem x_Lw_law_131 {sc : Int × (Int → Int)} {d : Nat} {a : Nat} {x1 : om_V} {L st : List om_V} {O : List (Nat × Nat × List om_V)} {I : Nat → Int → Int} {Q : Option om_V → om_H → Prop} : om_R sc (d + 1) 0 131 L (x1 :: .inr (.inl a) :: st) (O, I) Q = (om_rv O a 8 ∧ st.length ≤ 8 ∧ om_R sc d 10 0 [.inr (.inl a), x1] [] (O, I) (fun v h' => om_R sc (d + 1) 0 134 L (v.toList ++ st) h' Q)) := om_q_virt (n := 1) rfl rfl rfl rfl (by simp) rfl
theorem x_Lw_law_134 {sc : Int × (Int → Int)} {d : Nat} {l0 l1 l3 : om_V} {a : Nat} {st : List om_V} {h : om_H} {Q : Option om_V → om_H → Prop} : om_R sc d 0 134 [l0, l1, .inr (.inl a), l3] st h Q = om_R sc d 0 135 [l0, l1, .inr (.inl a), l3] (.inr (.inl a) :: st) h Q := om_q_aload_n rfl rfl
theorem x_Lw_law_135 {sc : Int × (Int → Int)} {d : Nat} {l1 l2 l3 : om_V} {st : List om_V} {h : om_H} {Q : Option om_V → om_H → Prop} : om_R sc d 0 135 [.inr (.inr 2), l1, l2, l3] st h Q = om_R sc d 0 136 [.inr (.inr 2), l1, l2, l3] (.inr (.inr 2) :: st) h Q := om_q_sload_n rfl rfl
theorem x_Lw_law_136 {sc : Int × (Int → Int)} {d : Nat} {l0 l1 l2 : om_V} {z : Int} {st : List om_V} {h : om_H} {Q : Option om_V → om_H → Prop} : om_R sc d 0 136 [l0, l1, l2, .inl z] st h Q = om_R sc d 0 137 [l0, l1, l2, .inl z] (.inl z :: st) h Q := om_q_iload_n rfl rfl
theorem x_Lw_law_137 {sc : Int × (Int → Int)} {d : Nat} {L st : List om_V} {h : om_H} {Q : Option om_V → om_H → Prop} : om_R sc d 0 137 L st h Q = om_R sc d 0 138 L (.inl 1 :: st) h Q := om_q_iconst rfl (by decide)
theorem x_Lw_law_138 {sc : Int × (Int → Int)} {d : Nat} {x y : Int} {L st : List om_V} {h : om_H} {Q : Option om_V → om_H → Prop} : om_R sc d 0 138 L (.inl y :: .inl x :: st) h Q = (om_Z (x + y) ∧ om_R sc d 0 139 L (.inl (x + y) :: st) h Q) := om_q_iadd rfl
theorem x_Lw_law_139 {sc : Int × (Int → Int)} {d : Nat} {z : Int} {L st : List om_V} {h : om_H} {Q : Option om_V → om_H → Prop} : om_R sc d 0 139 L (.inl z :: .inr (.inr 2) :: st) h Q = ((0 ≤ z ∧ z < sc.1) ∧ om_R sc d 0 140 L (.inl (sc.2 z) :: st) h Q) := om_q_sald rfl
theorem x_Lw_law_140 {sc : Int × (Int → Int)} {d : Nat} {x : Int} {L st : List om_V} {h : om_H} {Q : Option om_V → om_H → Prop} : om_R sc d 0 140 L (.inl x :: st) h Q = om_R sc d 0 141 L (.inl (x % 65536) :: st) h Q := om_q_i2c rfl
theorem x_Lw_law_141 {sc : Int × (Int → Int)} {d : Nat} {a : Nat} {x1 : om_V} {L st : List om_V} {O : List (Nat × Nat × List om_V)} {I : Nat → Int → Int} {Q : Option om_V → om_H → Prop} : om_R sc (d + 1) 0 141 L (x1 :: .inr (.inl a) :: st) (O, I) Q = (om_rv O a 9 ∧ st.length ≤ 8 ∧ om_R sc d 96 0 [.inr (.inl a), x1] [] (O, I) (fun v h' => om_R sc (d + 1) 0 144 L (v.toList ++ st) h' Q)) := om_q_virt (n := 1) rfl rfl rfl rfl (by simp) rfl
theorem x_Lw_law_144 {sc : Int × (Int → Int)} {d : Nat} {x y : Int} {L st : List om_V} {h : om_H} {Q : Option om_V → om_H → Prop} : om_R sc d 0 144 L (.inl y :: .inl x :: st) h Q = (if x = y then om_R sc d 0 687 L st h Q else om_R sc d 0 147 L st h Q) := om_q_iceq rfl rfl
theorem x_Lw_law_147 {sc : Int × (Int → Int)} {d : Nat} {L st : List om_V} {h : om_H} {Q : Option om_V → om_H → Prop} : om_R sc d 0 147 L st h Q = om_R sc d 0 148 L (.inl 0 :: st) h Q := om_q_iconst rfl (by decide)
theorem x_Lw_law_148 {sc : Int × (Int → Int)} {d : Nat} {z : Int} {L : List om_V} {h : om_H} {Q : Option om_V → om_H → Prop} : om_R sc d 0 148 L [.inl z] h Q = ((z = 0 ∨ z = 1) ∧ Q (some (.inl z)) h) := om_q_zret rfl rfl
theorem x_Lw_law_149 {sc : Int × (Int → Int)} {d : Nat} {l0 l2 l3 : om_V} {a : Nat} {st : List om_V} {h : om_H} {Q : Option om_V → om_H → Prop} : om_R sc d 0 149 [l0, .inr (.inl a), l2, l3] st h Q = om_R sc d 0 150 [l0, .inr (.inl a), l2, l3] (.inr (.inl a) :: st) h Q := om_q_aload_n rfl rfl
theorem x_Lw_law_150 {sc : Int × (Int → Int)} {d : Nat} {a : Nat} {L st : List om_V} {O : List (Nat × Nat × List om_V)} {I : Nat → Int → Int} {Q : Option om_V → om_H → Prop} : om_R sc (d + 1) 0 150 L (.inr (.inl a) :: st) (O, I) Q = (om_rv O a 8 ∧ st.length ≤ 8 ∧ om_R sc d 12 0 [.inr (.inl a)] [] (O, I) (fun v h' => om_R sc (d + 1) 0 153 L (v.toList ++ st) h' Q)) := om_q_virt (n := 0) rfl rfl rfl rfl (by simp) rfl
theorem x_Lw_law_153 {sc : Int × (Int → Int)} {d : Nat} {l0 l1 l3 : om_V} {a : Nat} {st : List om_V} {h : om_H} {Q : Option om_V → om_H → Prop} : om_R sc d 0 153 [l0, l1, .inr (.inl a), l3] st h Q = om_R sc d 0 154 [l0, l1, .inr (.inl a), l3] (.inr (.inl a) :: st) h Q := om_q_aload_n rfl rfl
theorem x_Lw_law_154 {sc : Int × (Int → Int)} {d : Nat} {a : Nat} {L st : List om_V} {O : List (Nat × Nat × List om_V)} {I : Nat → Int → Int} {Q : Option om_V → om_H → Prop} : om_R sc (d + 1) 0 154 L (.inr (.inl a) :: st) (O, I) Q = (om_rv O a 9 ∧ st.length ≤ 8 ∧ om_R sc d 97 0 [.inr (.inl a), om_un] [] (O, I) (fun v h' => om_R sc (d + 1) 0 157 L (v.toList ++ st) h' Q)) := om_q_virt (n := 0) rfl rfl rfl rfl (by simp) rfl
theorem x_Lw_law_157 {sc : Int × (Int → Int)} {d : Nat} {x y : Int} {L st : List om_V} {h : om_H} {Q : Option om_V → om_H → Prop} : om_R sc d 0 157 L (.inl y :: .inl x :: st) h Q = (if x = y then om_R sc d 0 687 L st h Q else om_R sc d 0 160 L st h Q) := om_q_iceq rfl rfl
theorem x_Lw_law_160 {sc : Int × (Int → Int)} {d : Nat} {L st : List om_V} {h : om_H} {Q : Option om_V → om_H → Prop} : om_R sc d 0 160 L st h Q = om_R sc d 0 161 L (.inl 0 :: st) h Q := om_q_iconst rfl (by decide)
theorem x_Lw_law_161 {sc : Int × (Int → Int)} {d : Nat} {z : Int} {L : List om_V} {h : om_H} {Q : Option om_V → om_H → Prop} : om_R sc d 0 161 L [.inl z] h Q = ((z = 0 ∨ z = 1) ∧ Q (some (.inl z)) h) := om_q_zret rfl rfl
theorem x_Lw_law_162 {sc : Int × (Int → Int)} {d : Nat} {l0 l2 l3 : om_V} {a : Nat} {st : List om_V} {h : om_H} {Q : Option om_V → om_H → Prop} : om_R sc d 0 162 [l0, .inr (.inl a), l2, l3] st h Q = om_R sc d 0 163 [l0, .inr (.inl a), l2, l3] (.inr (.inl a) :: st) h Q := om_q_aload_n rfl rfl
theorem x_Lw_law_163 {sc : Int × (Int → Int)} {d : Nat} {l1 l2 l3 : om_V} {st : List om_V} {h : om_H} {Q : Option om_V → om_H → Prop} : om_R sc d 0 163 [.inr (.inr 2), l1, l2, l3] st h Q = om_R sc d 0 164 [.inr (.inr 2), l1, l2, l3] (.inr (.inr 2) :: st) h Q := om_q_sload_n rfl rfl
theorem x_Lw_law_164 {sc : Int × (Int → Int)} {d : Nat} {l0 l1 l2 : om_V} {z : Int} {st : List om_V} {h : om_H} {Q : Option om_V → om_H → Prop} : om_R sc d 0 164 [l0, l1, l2, .inl z] st h Q = om_R sc d 0 165 [l0, l1, l2, .inl z] (.inl z :: st) h Q := om_q_iload_n rfl rfl
theorem x_Lw_law_165 {sc : Int × (Int → Int)} {d : Nat} {L st : List om_V} {h : om_H} {Q : Option om_V → om_H → Prop} : om_R sc d 0 165 L st h Q = om_R sc d 0 166 L (.inl 1 :: st) h Q := om_q_iconst rfl (by decide)
theorem x_Lw_law_166 {sc : Int × (Int → Int)} {d : Nat} {x y : Int} {L st : List om_V} {h : om_H} {Q : Option om_V → om_H → Prop} : om_R sc d 0 166 L (.inl y :: .inl x :: st) h Q = (om_Z (x + y) ∧ om_R sc d 0 167 L (.inl (x + y) :: st) h Q) := om_q_iadd rfl
theorem x_Lw_law_167 {sc : Int × (Int → Int)} {d : Nat} {z : Int} {L st : List om_V} {h : om_H} {Q : Option om_V → om_H → Prop} : om_R sc d 0 167 L (.inl z :: .inr (.inr 2) :: st) h Q = ((0 ≤ z ∧ z < sc.1) ∧ om_R sc d 0 168 L (.inl (sc.2 z) :: st) h Q) := om_q_sald rfl
theorem x_Lw_law_168 {sc : Int × (Int → Int)} {d : Nat} {a : Nat} {x1 : om_V} {L st : List om_V} {O : List (Nat × Nat × List om_V)} {I : Nat → Int → Int} {Q : Option om_V → om_H → Prop} : om_R sc (d + 1) 0 168 L (x1 :: .inr (.inl a) :: st) (O, I) Q = (om_rv O a 8 ∧ st.length ≤ 8 ∧ om_R sc d 14 0 [.inr (.inl a), x1, om_un] [] (O, I) (fun v h' => om_R sc (d + 1) 0 171 L (v.toList ++ st) h' Q)) := om_q_virt (n := 1) rfl rfl rfl rfl (by simp) rfl
theorem x_Lw_law_171 {sc : Int × (Int → Int)} {d : Nat} {l0 l1 l3 : om_V} {a : Nat} {st : List om_V} {h : om_H} {Q : Option om_V → om_H → Prop} : om_R sc d 0 171 [l0, l1, .inr (.inl a), l3] st h Q = om_R sc d 0 172 [l0, l1, .inr (.inl a), l3] (.inr (.inl a) :: st) h Q := om_q_aload_n rfl rfl
theorem x_Lw_law_172 {sc : Int × (Int → Int)} {d : Nat} {l1 l2 l3 : om_V} {st : List om_V} {h : om_H} {Q : Option om_V → om_H → Prop} : om_R sc d 0 172 [.inr (.inr 2), l1, l2, l3] st h Q = om_R sc d 0 173 [.inr (.inr 2), l1, l2, l3] (.inr (.inr 2) :: st) h Q := om_q_sload_n rfl rfl
theorem x_Lw_law_173 {sc : Int × (Int → Int)} {d : Nat} {l0 l1 l2 : om_V} {z : Int} {st : List om_V} {h : om_H} {Q : Option om_V → om_H → Prop} : om_R sc d 0 173 [l0, l1, l2, .inl z] st h Q = om_R sc d 0 174 [l0, l1, l2, .inl z] (.inl z :: st) h Q := om_q_iload_n rfl rfl
theorem x_Lw_law_174 {sc : Int × (Int → Int)} {d : Nat} {L st : List om_V} {h : om_H} {Q : Option om_V → om_H → Prop} : om_R sc d 0 174 L st h Q = om_R sc d 0 175 L (.inl 1 :: st) h Q := om_q_iconst rfl (by decide)
theorem x_Lw_law_175 {sc : Int × (Int → Int)} {d : Nat} {x y : Int} {L st : List om_V} {h : om_H} {Q : Option om_V → om_H → Prop} : om_R sc d 0 175 L (.inl y :: .inl x :: st) h Q = (om_Z (x + y) ∧ om_R sc d 0 176 L (.inl (x + y) :: st) h Q) := om_q_iadd rfl
theorem x_Lw_law_176 {sc : Int × (Int → Int)} {d : Nat} {z : Int} {L st : List om_V} {h : om_H} {Q : Option om_V → om_H → Prop} : om_R sc d 0 176 L (.inl z :: .inr (.inr 2) :: st) h Q = ((0 ≤ z ∧ z < sc.1) ∧ om_R sc d 0 177 L (.inl (sc.2 z) :: st) h Q) := om_q_sald rfl
theorem x_Lw_law_177 {sc : Int × (Int → Int)} {d : Nat} {a : Nat} {x1 : om_V} {L st : List om_V} {O : List (Nat × Nat × List om_V)} {I : Nat → Int → Int} {Q : Option om_V → om_H → Prop} : om_R sc (d + 1) 0 177 L (x1 :: .inr (.inl a) :: st) (O, I) Q = (om_rv O a 9 ∧ st.length ≤ 8 ∧ om_R sc d 98 0 [.inr (.inl a), x1] [] (O, I) (fun v h' => om_R sc (d + 1) 0 180 L (v.toList ++ st) h' Q)) := om_q_virt (n := 1) rfl rfl rfl rfl (by simp) rfl
theorem x_Lw_law_180 {sc : Int × (Int → Int)} {d : Nat} {x y : Int} {L st : List om_V} {h : om_H} {Q : Option om_V → om_H → Prop} : om_R sc d 0 180 L (.inl y :: .inl x :: st) h Q = (if x = y then om_R sc d 0 687 L st h Q else om_R sc d 0 183 L st h Q) := om_q_iceq rfl rfl
theorem x_Lw_law_183 {sc : Int × (Int → Int)} {d : Nat} {L st : List om_V} {h : om_H} {Q : Option om_V → om_H → Prop} : om_R sc d 0 183 L st h Q = om_R sc d 0 184 L (.inl 0 :: st) h Q := om_q_iconst rfl (by decide)
theorem x_Lw_law_184 {sc : Int × (Int → Int)} {d : Nat} {z : Int} {L : List om_V} {h : om_H} {Q : Option om_V → om_H → Prop} : om_R sc d 0 184 L [.inl z] h Q = ((z = 0 ∨ z = 1) ∧ Q (some (.inl z)) h) := om_q_zret rfl rfl
theorem x_Lw_law_185 {sc : Int × (Int → Int)} {d : Nat} {l0 l2 l3 : om_V} {a : Nat} {st : List om_V} {h : om_H} {Q : Option om_V → om_H → Prop} : om_R sc d 0 185 [l0, .inr (.inl a), l2, l3] st h Q = om_R sc d 0 186 [l0, .inr (.inl a), l2, l3] (.inr (.inl a) :: st) h Q := om_q_aload_n rfl rfl
theorem x_Lw_law_186 {sc : Int × (Int → Int)} {d : Nat} {l1 l2 l3 : om_V} {st : List om_V} {h : om_H} {Q : Option om_V → om_H → Prop} : om_R sc d 0 186 [.inr (.inr 2), l1, l2, l3] st h Q = om_R sc d 0 187 [.inr (.inr 2), l1, l2, l3] (.inr (.inr 2) :: st) h Q := om_q_sload_n rfl rfl
theorem x_Lw_law_187 {sc : Int × (Int → Int)} {d : Nat} {l0 l1 l2 : om_V} {z : Int} {st : List om_V} {h : om_H} {Q : Option om_V → om_H → Prop} : om_R sc d 0 187 [l0, l1, l2, .inl z] st h Q = om_R sc d 0 188 [l0, l1, l2, .inl z] (.inl z :: st) h Q := om_q_iload_n rfl rfl
theorem x_Lw_law_188 {sc : Int × (Int → Int)} {d : Nat} {L st : List om_V} {h : om_H} {Q : Option om_V → om_H → Prop} : om_R sc d 0 188 L st h Q = om_R sc d 0 189 L (.inl 1 :: st) h Q := om_q_iconst rfl (by decide)
theorem x_Lw_law_189 {sc : Int × (Int → Int)} {d : Nat} {x y : Int} {L st : List om_V} {h : om_H} {Q : Option om_V → om_H → Prop} : om_R sc d 0 189 L (.inl y :: .inl x :: st) h Q = (om_Z (x + y) ∧ om_R sc d 0 190 L (.inl (x + y) :: st) h Q) := om_q_iadd rfl
theorem x_Lw_law_190 {sc : Int × (Int → Int)} {d : Nat} {z : Int} {L st : List om_V} {h : om_H} {Q : Option om_V → om_H → Prop} : om_R sc d 0 190 L (.inl z :: .inr (.inr 2) :: st) h Q = ((0 ≤ z ∧ z < sc.1) ∧ om_R sc d 0 191 L (.inl (sc.2 z) :: st) h Q) := om_q_sald rfl
theorem x_Lw_law_191 {sc : Int × (Int → Int)} {d : Nat} {a : Nat} {x1 : om_V} {L st : List om_V} {O : List (Nat × Nat × List om_V)} {I : Nat → Int → Int} {Q : Option om_V → om_H → Prop} : om_R sc (d + 1) 0 191 L (x1 :: .inr (.inl a) :: st) (O, I) Q = (om_rv O a 8 ∧ st.length ≤ 8 ∧ om_R sc d 46 0 [.inr (.inl a), x1] [] (O, I) (fun v h' => om_R sc (d + 1) 0 194 L (v.toList ++ st) h' Q)) := om_q_virt (n := 1) rfl rfl rfl rfl (by simp) rfl
theorem x_Lw_law_194 {sc : Int × (Int → Int)} {d : Nat} {l0 l1 l3 : om_V} {a : Nat} {st : List om_V} {h : om_H} {Q : Option om_V → om_H → Prop} : om_R sc d 0 194 [l0, l1, .inr (.inl a), l3] st h Q = om_R sc d 0 195 [l0, l1, .inr (.inl a), l3] (.inr (.inl a) :: st) h Q := om_q_aload_n rfl rfl
theorem x_Lw_law_195 {sc : Int × (Int → Int)} {d : Nat} {l1 l2 l3 : om_V} {st : List om_V} {h : om_H} {Q : Option om_V → om_H → Prop} : om_R sc d 0 195 [.inr (.inr 2), l1, l2, l3] st h Q = om_R sc d 0 196 [.inr (.inr 2), l1, l2, l3] (.inr (.inr 2) :: st) h Q := om_q_sload_n rfl rfl
theorem x_Lw_law_196 {sc : Int × (Int → Int)} {d : Nat} {l0 l1 l2 : om_V} {z : Int} {st : List om_V} {h : om_H} {Q : Option om_V → om_H → Prop} : om_R sc d 0 196 [l0, l1, l2, .inl z] st h Q = om_R sc d 0 197 [l0, l1, l2, .inl z] (.inl z :: st) h Q := om_q_iload_n rfl rfl
theorem x_Lw_law_197 {sc : Int × (Int → Int)} {d : Nat} {L st : List om_V} {h : om_H} {Q : Option om_V → om_H → Prop} : om_R sc d 0 197 L st h Q = om_R sc d 0 198 L (.inl 1 :: st) h Q := om_q_iconst rfl (by decide)
theorem x_Lw_law_198 {sc : Int × (Int → Int)} {d : Nat} {x y : Int} {L st : List om_V} {h : om_H} {Q : Option om_V → om_H → Prop} : om_R sc d 0 198 L (.inl y :: .inl x :: st) h Q = (om_Z (x + y) ∧ om_R sc d 0 199 L (.inl (x + y) :: st) h Q) := om_q_iadd rfl
theorem x_Lw_law_199 {sc : Int × (Int → Int)} {d : Nat} {z : Int} {L st : List om_V} {h : om_H} {Q : Option om_V → om_H → Prop} : om_R sc d 0 199 L (.inl z :: .inr (.inr 2) :: st) h Q = ((0 ≤ z ∧ z < sc.1) ∧ om_R sc d 0 200 L (.inl (sc.2 z) :: st) h Q) := om_q_sald rfl
theorem x_Lw_law_200 {sc : Int × (Int → Int)} {d : Nat} {a : Nat} {x1 : om_V} {L st : List om_V} {O : List (Nat × Nat × List om_V)} {I : Nat → Int → Int} {Q : Option om_V → om_H → Prop} : om_R sc (d + 1) 0 200 L (x1 :: .inr (.inl a) :: st) (O, I) Q = (om_rv O a 9 ∧ st.length ≤ 8 ∧ om_R sc d 128 0 [.inr (.inl a), x1] [] (O, I) (fun v h' => om_R sc (d + 1) 0 203 L (v.toList ++ st) h' Q)) := om_q_virt (n := 1) rfl rfl rfl rfl (by simp) rfl
theorem x_Lw_law_203 {sc : Int × (Int → Int)} {d : Nat} {x y : Int} {L st : List om_V} {h : om_H} {Q : Option om_V → om_H → Prop} : om_R sc d 0 203 L (.inl y :: .inl x :: st) h Q = (if x = y then om_R sc d 0 687 L st h Q else om_R sc d 0 206 L st h Q) := om_q_iceq rfl rfl
theorem x_Lw_law_206 {sc : Int × (Int → Int)} {d : Nat} {L st : List om_V} {h : om_H} {Q : Option om_V → om_H → Prop} : om_R sc d 0 206 L st h Q = om_R sc d 0 207 L (.inl 0 :: st) h Q := om_q_iconst rfl (by decide)
theorem x_Lw_law_207 {sc : Int × (Int → Int)} {d : Nat} {z : Int} {L : List om_V} {h : om_H} {Q : Option om_V → om_H → Prop} : om_R sc d 0 207 L [.inl z] h Q = ((z = 0 ∨ z = 1) ∧ Q (some (.inl z)) h) := om_q_zret rfl rfl
theorem x_Lw_law_208 {sc : Int × (Int → Int)} {d : Nat} {l0 l2 l3 : om_V} {a : Nat} {st : List om_V} {h : om_H} {Q : Option om_V → om_H → Prop} : om_R sc d 0 208 [l0, .inr (.inl a), l2, l3] st h Q = om_R sc d 0 209 [l0, .inr (.inl a), l2, l3] (.inr (.inl a) :: st) h Q := om_q_aload_n rfl rfl
theorem x_Lw_law_209 {sc : Int × (Int → Int)} {d : Nat} {l1 l2 l3 : om_V} {st : List om_V} {h : om_H} {Q : Option om_V → om_H → Prop} : om_R sc d 0 209 [.inr (.inr 2), l1, l2, l3] st h Q = om_R sc d 0 210 [.inr (.inr 2), l1, l2, l3] (.inr (.inr 2) :: st) h Q := om_q_sload_n rfl rfl
theorem x_Lw_law_210 {sc : Int × (Int → Int)} {d : Nat} {l0 l1 l2 : om_V} {z : Int} {st : List om_V} {h : om_H} {Q : Option om_V → om_H → Prop} : om_R sc d 0 210 [l0, l1, l2, .inl z] st h Q = om_R sc d 0 211 [l0, l1, l2, .inl z] (.inl z :: st) h Q := om_q_iload_n rfl rfl
theorem x_Lw_law_211 {sc : Int × (Int → Int)} {d : Nat} {L st : List om_V} {h : om_H} {Q : Option om_V → om_H → Prop} : om_R sc d 0 211 L st h Q = om_R sc d 0 212 L (.inl 1 :: st) h Q := om_q_iconst rfl (by decide)
theorem x_Lw_law_212 {sc : Int × (Int → Int)} {d : Nat} {x y : Int} {L st : List om_V} {h : om_H} {Q : Option om_V → om_H → Prop} : om_R sc d 0 212 L (.inl y :: .inl x :: st) h Q = (om_Z (x + y) ∧ om_R sc d 0 213 L (.inl (x + y) :: st) h Q) := om_q_iadd rfl
theorem x_Lw_law_213 {sc : Int × (Int → Int)} {d : Nat} {z : Int} {L st : List om_V} {h : om_H} {Q : Option om_V → om_H → Prop} : om_R sc d 0 213 L (.inl z :: .inr (.inr 2) :: st) h Q = ((0 ≤ z ∧ z < sc.1) ∧ om_R sc d 0 214 L (.inl (sc.2 z) :: st) h Q) := om_q_sald rfl
theorem x_Lw_law_214 {sc : Int × (Int → Int)} {d : Nat} {l1 l2 l3 : om_V} {st : List om_V} {h : om_H} {Q : Option om_V → om_H → Prop} : om_R sc d 0 214 [.inr (.inr 2), l1, l2, l3] st h Q = om_R sc d 0 215 [.inr (.inr 2), l1, l2, l3] (.inr (.inr 2) :: st) h Q := om_q_sload_n rfl rfl
theorem x_Lw_law_215 {sc : Int × (Int → Int)} {d : Nat} {l0 l1 l2 : om_V} {z : Int} {st : List om_V} {h : om_H} {Q : Option om_V → om_H → Prop} : om_R sc d 0 215 [l0, l1, l2, .inl z] st h Q = om_R sc d 0 216 [l0, l1, l2, .inl z] (.inl z :: st) h Q := om_q_iload_n rfl rfl
theorem x_Lw_law_216 {sc : Int × (Int → Int)} {d : Nat} {L st : List om_V} {h : om_H} {Q : Option om_V → om_H → Prop} : om_R sc d 0 216 L st h Q = om_R sc d 0 217 L (.inl 2 :: st) h Q := om_q_iconst rfl (by decide)
theorem x_Lw_law_217 {sc : Int × (Int → Int)} {d : Nat} {x y : Int} {L st : List om_V} {h : om_H} {Q : Option om_V → om_H → Prop} : om_R sc d 0 217 L (.inl y :: .inl x :: st) h Q = (om_Z (x + y) ∧ om_R sc d 0 218 L (.inl (x + y) :: st) h Q) := om_q_iadd rfl
theorem x_Lw_law_218 {sc : Int × (Int → Int)} {d : Nat} {z : Int} {L st : List om_V} {h : om_H} {Q : Option om_V → om_H → Prop} : om_R sc d 0 218 L (.inl z :: .inr (.inr 2) :: st) h Q = ((0 ≤ z ∧ z < sc.1) ∧ om_R sc d 0 219 L (.inl (sc.2 z) :: st) h Q) := om_q_sald rfl
theorem x_Lw_law_219 {sc : Int × (Int → Int)} {d : Nat} {l1 l2 l3 : om_V} {st : List om_V} {h : om_H} {Q : Option om_V → om_H → Prop} : om_R sc d 0 219 [.inr (.inr 2), l1, l2, l3] st h Q = om_R sc d 0 220 [.inr (.inr 2), l1, l2, l3] (.inr (.inr 2) :: st) h Q := om_q_sload_n rfl rfl
theorem x_Lw_law_220 {sc : Int × (Int → Int)} {d : Nat} {l0 l1 l2 : om_V} {z : Int} {st : List om_V} {h : om_H} {Q : Option om_V → om_H → Prop} : om_R sc d 0 220 [l0, l1, l2, .inl z] st h Q = om_R sc d 0 221 [l0, l1, l2, .inl z] (.inl z :: st) h Q := om_q_iload_n rfl rfl
theorem x_Lw_law_221 {sc : Int × (Int → Int)} {d : Nat} {L st : List om_V} {h : om_H} {Q : Option om_V → om_H → Prop} : om_R sc d 0 221 L st h Q = om_R sc d 0 222 L (.inl 3 :: st) h Q := om_q_iconst rfl (by decide)
theorem x_Lw_law_222 {sc : Int × (Int → Int)} {d : Nat} {x y : Int} {L st : List om_V} {h : om_H} {Q : Option om_V → om_H → Prop} : om_R sc d 0 222 L (.inl y :: .inl x :: st) h Q = (om_Z (x + y) ∧ om_R sc d 0 223 L (.inl (x + y) :: st) h Q) := om_q_iadd rfl
theorem x_Lw_law_223 {sc : Int × (Int → Int)} {d : Nat} {z : Int} {L st : List om_V} {h : om_H} {Q : Option om_V → om_H → Prop} : om_R sc d 0 223 L (.inl z :: .inr (.inr 2) :: st) h Q = ((0 ≤ z ∧ z < sc.1) ∧ om_R sc d 0 224 L (.inl (sc.2 z) :: st) h Q) := om_q_sald rfl
theorem x_Lw_law_224 {sc : Int × (Int → Int)} {d : Nat} {a : Nat} {x1 x2 x3 : om_V} {L st : List om_V} {O : List (Nat × Nat × List om_V)} {I : Nat → Int → Int} {Q : Option om_V → om_H → Prop} : om_R sc (d + 1) 0 224 L (x3 :: x2 :: x1 :: .inr (.inl a) :: st) (O, I) Q = (om_rv O a 8 ∧ st.length ≤ 8 ∧ om_R sc d 47 0 [.inr (.inl a), x1, x2, x3] [] (O, I) (fun v h' => om_R sc (d + 1) 0 227 L (v.toList ++ st) h' Q)) := om_q_virt (n := 3) rfl rfl rfl rfl (by simp) rfl
theorem x_Lw_law_227 {sc : Int × (Int → Int)} {d : Nat} {l0 l1 l3 : om_V} {a : Nat} {st : List om_V} {h : om_H} {Q : Option om_V → om_H → Prop} : om_R sc d 0 227 [l0, l1, .inr (.inl a), l3] st h Q = om_R sc d 0 228 [l0, l1, .inr (.inl a), l3] (.inr (.inl a) :: st) h Q := om_q_aload_n rfl rfl
theorem x_Lw_law_228 {sc : Int × (Int → Int)} {d : Nat} {l1 l2 l3 : om_V} {st : List om_V} {h : om_H} {Q : Option om_V → om_H → Prop} : om_R sc d 0 228 [.inr (.inr 2), l1, l2, l3] st h Q = om_R sc d 0 229 [.inr (.inr 2), l1, l2, l3] (.inr (.inr 2) :: st) h Q := om_q_sload_n rfl rfl
theorem x_Lw_law_229 {sc : Int × (Int → Int)} {d : Nat} {l0 l1 l2 : om_V} {z : Int} {st : List om_V} {h : om_H} {Q : Option om_V → om_H → Prop} : om_R sc d 0 229 [l0, l1, l2, .inl z] st h Q = om_R sc d 0 230 [l0, l1, l2, .inl z] (.inl z :: st) h Q := om_q_iload_n rfl rfl
theorem x_Lw_law_230 {sc : Int × (Int → Int)} {d : Nat} {L st : List om_V} {h : om_H} {Q : Option om_V → om_H → Prop} : om_R sc d 0 230 L st h Q = om_R sc d 0 231 L (.inl 1 :: st) h Q := om_q_iconst rfl (by decide)
theorem x_Lw_law_231 {sc : Int × (Int → Int)} {d : Nat} {x y : Int} {L st : List om_V} {h : om_H} {Q : Option om_V → om_H → Prop} : om_R sc d 0 231 L (.inl y :: .inl x :: st) h Q = (om_Z (x + y) ∧ om_R sc d 0 232 L (.inl (x + y) :: st) h Q) := om_q_iadd rfl
theorem x_Lw_law_232 {sc : Int × (Int → Int)} {d : Nat} {z : Int} {L st : List om_V} {h : om_H} {Q : Option om_V → om_H → Prop} : om_R sc d 0 232 L (.inl z :: .inr (.inr 2) :: st) h Q = ((0 ≤ z ∧ z < sc.1) ∧ om_R sc d 0 233 L (.inl (sc.2 z) :: st) h Q) := om_q_sald rfl
theorem x_Lw_law_233 {sc : Int × (Int → Int)} {d : Nat} {l1 l2 l3 : om_V} {st : List om_V} {h : om_H} {Q : Option om_V → om_H → Prop} : om_R sc d 0 233 [.inr (.inr 2), l1, l2, l3] st h Q = om_R sc d 0 234 [.inr (.inr 2), l1, l2, l3] (.inr (.inr 2) :: st) h Q := om_q_sload_n rfl rfl
theorem x_Lw_law_234 {sc : Int × (Int → Int)} {d : Nat} {l0 l1 l2 : om_V} {z : Int} {st : List om_V} {h : om_H} {Q : Option om_V → om_H → Prop} : om_R sc d 0 234 [l0, l1, l2, .inl z] st h Q = om_R sc d 0 235 [l0, l1, l2, .inl z] (.inl z :: st) h Q := om_q_iload_n rfl rfl
theorem x_Lw_law_235 {sc : Int × (Int → Int)} {d : Nat} {L st : List om_V} {h : om_H} {Q : Option om_V → om_H → Prop} : om_R sc d 0 235 L st h Q = om_R sc d 0 236 L (.inl 2 :: st) h Q := om_q_iconst rfl (by decide)
theorem x_Lw_law_236 {sc : Int × (Int → Int)} {d : Nat} {x y : Int} {L st : List om_V} {h : om_H} {Q : Option om_V → om_H → Prop} : om_R sc d 0 236 L (.inl y :: .inl x :: st) h Q = (om_Z (x + y) ∧ om_R sc d 0 237 L (.inl (x + y) :: st) h Q) := om_q_iadd rfl
theorem x_Lw_law_237 {sc : Int × (Int → Int)} {d : Nat} {z : Int} {L st : List om_V} {h : om_H} {Q : Option om_V → om_H → Prop} : om_R sc d 0 237 L (.inl z :: .inr (.inr 2) :: st) h Q = ((0 ≤ z ∧ z < sc.1) ∧ om_R sc d 0 238 L (.inl (sc.2 z) :: st) h Q) := om_q_sald rfl
theorem x_Lw_law_238 {sc : Int × (Int → Int)} {d : Nat} {l1 l2 l3 : om_V} {st : List om_V} {h : om_H} {Q : Option om_V → om_H → Prop} : om_R sc d 0 238 [.inr (.inr 2), l1, l2, l3] st h Q = om_R sc d 0 239 [.inr (.inr 2), l1, l2, l3] (.inr (.inr 2) :: st) h Q := om_q_sload_n rfl rfl
theorem x_Lw_law_239 {sc : Int × (Int → Int)} {d : Nat} {l0 l1 l2 : om_V} {z : Int} {st : List om_V} {h : om_H} {Q : Option om_V → om_H → Prop} : om_R sc d 0 239 [l0, l1, l2, .inl z] st h Q = om_R sc d 0 240 [l0, l1, l2, .inl z] (.inl z :: st) h Q := om_q_iload_n rfl rfl
theorem x_Lw_law_240 {sc : Int × (Int → Int)} {d : Nat} {L st : List om_V} {h : om_H} {Q : Option om_V → om_H → Prop} : om_R sc d 0 240 L st h Q = om_R sc d 0 241 L (.inl 3 :: st) h Q := om_q_iconst rfl (by decide)
theorem x_Lw_law_241 {sc : Int × (Int → Int)} {d : Nat} {x y : Int} {L st : List om_V} {h : om_H} {Q : Option om_V → om_H → Prop} : om_R sc d 0 241 L (.inl y :: .inl x :: st) h Q = (om_Z (x + y) ∧ om_R sc d 0 242 L (.inl (x + y) :: st) h Q) := om_q_iadd rfl
theorem x_Lw_law_242 {sc : Int × (Int → Int)} {d : Nat} {z : Int} {L st : List om_V} {h : om_H} {Q : Option om_V → om_H → Prop} : om_R sc d 0 242 L (.inl z :: .inr (.inr 2) :: st) h Q = ((0 ≤ z ∧ z < sc.1) ∧ om_R sc d 0 243 L (.inl (sc.2 z) :: st) h Q) := om_q_sald rfl
theorem x_Lw_law_243 {sc : Int × (Int → Int)} {d : Nat} {a : Nat} {x1 x2 x3 : om_V} {L st : List om_V} {O : List (Nat × Nat × List om_V)} {I : Nat → Int → Int} {Q : Option om_V → om_H → Prop} : om_R sc (d + 1) 0 243 L (x3 :: x2 :: x1 :: .inr (.inl a) :: st) (O, I) Q = (om_rv O a 9 ∧ st.length ≤ 8 ∧ om_R sc d 129 0 [.inr (.inl a), x1, x2, x3] [] (O, I) (fun v h' => om_R sc (d + 1) 0 246 L (v.toList ++ st) h' Q)) := om_q_virt (n := 3) rfl rfl rfl rfl (by simp) rfl
theorem x_Lw_law_246 {sc : Int × (Int → Int)} {d : Nat} {x y : Int} {L st : List om_V} {h : om_H} {Q : Option om_V → om_H → Prop} : om_R sc d 0 246 L (.inl y :: .inl x :: st) h Q = (if x = y then om_R sc d 0 687 L st h Q else om_R sc d 0 249 L st h Q) := om_q_iceq rfl rfl
theorem x_Lw_law_249 {sc : Int × (Int → Int)} {d : Nat} {L st : List om_V} {h : om_H} {Q : Option om_V → om_H → Prop} : om_R sc d 0 249 L st h Q = om_R sc d 0 250 L (.inl 0 :: st) h Q := om_q_iconst rfl (by decide)
theorem x_Lw_law_250 {sc : Int × (Int → Int)} {d : Nat} {z : Int} {L : List om_V} {h : om_H} {Q : Option om_V → om_H → Prop} : om_R sc d 0 250 L [.inl z] h Q = ((z = 0 ∨ z = 1) ∧ Q (some (.inl z)) h) := om_q_zret rfl rfl
theorem x_Lw_law_251 {sc : Int × (Int → Int)} {d : Nat} {l0 l2 l3 : om_V} {a : Nat} {st : List om_V} {h : om_H} {Q : Option om_V → om_H → Prop} : om_R sc d 0 251 [l0, .inr (.inl a), l2, l3] st h Q = om_R sc d 0 252 [l0, .inr (.inl a), l2, l3] (.inr (.inl a) :: st) h Q := om_q_aload_n rfl rfl
theorem x_Lw_law_252 {sc : Int × (Int → Int)} {d : Nat} {l1 l2 l3 : om_V} {st : List om_V} {h : om_H} {Q : Option om_V → om_H → Prop} : om_R sc d 0 252 [.inr (.inr 2), l1, l2, l3] st h Q = om_R sc d 0 253 [.inr (.inr 2), l1, l2, l3] (.inr (.inr 2) :: st) h Q := om_q_sload_n rfl rfl
theorem x_Lw_law_253 {sc : Int × (Int → Int)} {d : Nat} {l0 l1 l2 : om_V} {z : Int} {st : List om_V} {h : om_H} {Q : Option om_V → om_H → Prop} : om_R sc d 0 253 [l0, l1, l2, .inl z] st h Q = om_R sc d 0 254 [l0, l1, l2, .inl z] (.inl z :: st) h Q := om_q_iload_n rfl rfl
theorem x_Lw_law_254 {sc : Int × (Int → Int)} {d : Nat} {L st : List om_V} {h : om_H} {Q : Option om_V → om_H → Prop} : om_R sc d 0 254 L st h Q = om_R sc d 0 255 L (.inl 1 :: st) h Q := om_q_iconst rfl (by decide)
theorem x_Lw_law_255 {sc : Int × (Int → Int)} {d : Nat} {x y : Int} {L st : List om_V} {h : om_H} {Q : Option om_V → om_H → Prop} : om_R sc d 0 255 L (.inl y :: .inl x :: st) h Q = (om_Z (x + y) ∧ om_R sc d 0 256 L (.inl (x + y) :: st) h Q) := om_q_iadd rfl
theorem x_Lw_law_256 {sc : Int × (Int → Int)} {d : Nat} {z : Int} {L st : List om_V} {h : om_H} {Q : Option om_V → om_H → Prop} : om_R sc d 0 256 L (.inl z :: .inr (.inr 2) :: st) h Q = ((0 ≤ z ∧ z < sc.1) ∧ om_R sc d 0 257 L (.inl (sc.2 z) :: st) h Q) := om_q_sald rfl
theorem x_Lw_law_257 {sc : Int × (Int → Int)} {d : Nat} {l1 l2 l3 : om_V} {st : List om_V} {h : om_H} {Q : Option om_V → om_H → Prop} : om_R sc d 0 257 [.inr (.inr 2), l1, l2, l3] st h Q = om_R sc d 0 258 [.inr (.inr 2), l1, l2, l3] (.inr (.inr 2) :: st) h Q := om_q_sload_n rfl rfl
theorem x_Lw_law_258 {sc : Int × (Int → Int)} {d : Nat} {l0 l1 l2 : om_V} {z : Int} {st : List om_V} {h : om_H} {Q : Option om_V → om_H → Prop} : om_R sc d 0 258 [l0, l1, l2, .inl z] st h Q = om_R sc d 0 259 [l0, l1, l2, .inl z] (.inl z :: st) h Q := om_q_iload_n rfl rfl
theorem x_Lw_law_259 {sc : Int × (Int → Int)} {d : Nat} {L st : List om_V} {h : om_H} {Q : Option om_V → om_H → Prop} : om_R sc d 0 259 L st h Q = om_R sc d 0 260 L (.inl 2 :: st) h Q := om_q_iconst rfl (by decide)
theorem x_Lw_law_260 {sc : Int × (Int → Int)} {d : Nat} {x y : Int} {L st : List om_V} {h : om_H} {Q : Option om_V → om_H → Prop} : om_R sc d 0 260 L (.inl y :: .inl x :: st) h Q = (om_Z (x + y) ∧ om_R sc d 0 261 L (.inl (x + y) :: st) h Q) := om_q_iadd rfl
theorem x_Lw_law_261 {sc : Int × (Int → Int)} {d : Nat} {z : Int} {L st : List om_V} {h : om_H} {Q : Option om_V → om_H → Prop} : om_R sc d 0 261 L (.inl z :: .inr (.inr 2) :: st) h Q = ((0 ≤ z ∧ z < sc.1) ∧ om_R sc d 0 262 L (.inl (sc.2 z) :: st) h Q) := om_q_sald rfl
theorem x_Lw_law_262 {sc : Int × (Int → Int)} {d : Nat} {l1 l2 l3 : om_V} {st : List om_V} {h : om_H} {Q : Option om_V → om_H → Prop} : om_R sc d 0 262 [.inr (.inr 2), l1, l2, l3] st h Q = om_R sc d 0 263 [.inr (.inr 2), l1, l2, l3] (.inr (.inr 2) :: st) h Q := om_q_sload_n rfl rfl
theorem x_Lw_law_263 {sc : Int × (Int → Int)} {d : Nat} {l0 l1 l2 : om_V} {z : Int} {st : List om_V} {h : om_H} {Q : Option om_V → om_H → Prop} : om_R sc d 0 263 [l0, l1, l2, .inl z] st h Q = om_R sc d 0 264 [l0, l1, l2, .inl z] (.inl z :: st) h Q := om_q_iload_n rfl rfl
theorem x_Lw_law_264 {sc : Int × (Int → Int)} {d : Nat} {L st : List om_V} {h : om_H} {Q : Option om_V → om_H → Prop} : om_R sc d 0 264 L st h Q = om_R sc d 0 265 L (.inl 3 :: st) h Q := om_q_iconst rfl (by decide)
theorem x_Lw_law_265 {sc : Int × (Int → Int)} {d : Nat} {x y : Int} {L st : List om_V} {h : om_H} {Q : Option om_V → om_H → Prop} : om_R sc d 0 265 L (.inl y :: .inl x :: st) h Q = (om_Z (x + y) ∧ om_R sc d 0 266 L (.inl (x + y) :: st) h Q) := om_q_iadd rfl
theorem x_Lw_law_266 {sc : Int × (Int → Int)} {d : Nat} {z : Int} {L st : List om_V} {h : om_H} {Q : Option om_V → om_H → Prop} : om_R sc d 0 266 L (.inl z :: .inr (.inr 2) :: st) h Q = ((0 ≤ z ∧ z < sc.1) ∧ om_R sc d 0 267 L (.inl (sc.2 z) :: st) h Q) := om_q_sald rfl
theorem x_Lw_law_267 {sc : Int × (Int → Int)} {d : Nat} {l1 l2 l3 : om_V} {st : List om_V} {h : om_H} {Q : Option om_V → om_H → Prop} : om_R sc d 0 267 [.inr (.inr 2), l1, l2, l3] st h Q = om_R sc d 0 268 [.inr (.inr 2), l1, l2, l3] (.inr (.inr 2) :: st) h Q := om_q_sload_n rfl rfl
theorem x_Lw_law_268 {sc : Int × (Int → Int)} {d : Nat} {l0 l1 l2 : om_V} {z : Int} {st : List om_V} {h : om_H} {Q : Option om_V → om_H → Prop} : om_R sc d 0 268 [l0, l1, l2, .inl z] st h Q = om_R sc d 0 269 [l0, l1, l2, .inl z] (.inl z :: st) h Q := om_q_iload_n rfl rfl
theorem x_Lw_law_269 {sc : Int × (Int → Int)} {d : Nat} {L st : List om_V} {h : om_H} {Q : Option om_V → om_H → Prop} : om_R sc d 0 269 L st h Q = om_R sc d 0 270 L (.inl 4 :: st) h Q := om_q_iconst rfl (by decide)
theorem x_Lw_law_270 {sc : Int × (Int → Int)} {d : Nat} {x y : Int} {L st : List om_V} {h : om_H} {Q : Option om_V → om_H → Prop} : om_R sc d 0 270 L (.inl y :: .inl x :: st) h Q = (om_Z (x + y) ∧ om_R sc d 0 271 L (.inl (x + y) :: st) h Q) := om_q_iadd rfl
theorem x_Lw_law_271 {sc : Int × (Int → Int)} {d : Nat} {z : Int} {L st : List om_V} {h : om_H} {Q : Option om_V → om_H → Prop} : om_R sc d 0 271 L (.inl z :: .inr (.inr 2) :: st) h Q = ((0 ≤ z ∧ z < sc.1) ∧ om_R sc d 0 272 L (.inl (sc.2 z) :: st) h Q) := om_q_sald rfl
theorem x_Lw_law_272 {sc : Int × (Int → Int)} {d : Nat} {a : Nat} {x1 x2 x3 x4 : om_V} {L st : List om_V} {O : List (Nat × Nat × List om_V)} {I : Nat → Int → Int} {Q : Option om_V → om_H → Prop} : om_R sc (d + 1) 0 272 L (x4 :: x3 :: x2 :: x1 :: .inr (.inl a) :: st) (O, I) Q = (om_rv O a 8 ∧ st.length ≤ 8 ∧ om_R sc d 48 0 [.inr (.inl a), x1, x2, x3, x4, om_un] [] (O, I) (fun v h' => om_R sc (d + 1) 0 275 L (v.toList ++ st) h' Q)) := om_q_virt (n := 4) rfl rfl rfl rfl (by simp) rfl
theorem x_Lw_law_275 {sc : Int × (Int → Int)} {d : Nat} {l0 l1 l3 : om_V} {a : Nat} {st : List om_V} {h : om_H} {Q : Option om_V → om_H → Prop} : om_R sc d 0 275 [l0, l1, .inr (.inl a), l3] st h Q = om_R sc d 0 276 [l0, l1, .inr (.inl a), l3] (.inr (.inl a) :: st) h Q := om_q_aload_n rfl rfl
theorem x_Lw_law_276 {sc : Int × (Int → Int)} {d : Nat} {l1 l2 l3 : om_V} {st : List om_V} {h : om_H} {Q : Option om_V → om_H → Prop} : om_R sc d 0 276 [.inr (.inr 2), l1, l2, l3] st h Q = om_R sc d 0 277 [.inr (.inr 2), l1, l2, l3] (.inr (.inr 2) :: st) h Q := om_q_sload_n rfl rfl
theorem x_Lw_law_277 {sc : Int × (Int → Int)} {d : Nat} {l0 l1 l2 : om_V} {z : Int} {st : List om_V} {h : om_H} {Q : Option om_V → om_H → Prop} : om_R sc d 0 277 [l0, l1, l2, .inl z] st h Q = om_R sc d 0 278 [l0, l1, l2, .inl z] (.inl z :: st) h Q := om_q_iload_n rfl rfl
theorem x_Lw_law_278 {sc : Int × (Int → Int)} {d : Nat} {L st : List om_V} {h : om_H} {Q : Option om_V → om_H → Prop} : om_R sc d 0 278 L st h Q = om_R sc d 0 279 L (.inl 1 :: st) h Q := om_q_iconst rfl (by decide)
theorem x_Lw_law_279 {sc : Int × (Int → Int)} {d : Nat} {x y : Int} {L st : List om_V} {h : om_H} {Q : Option om_V → om_H → Prop} : om_R sc d 0 279 L (.inl y :: .inl x :: st) h Q = (om_Z (x + y) ∧ om_R sc d 0 280 L (.inl (x + y) :: st) h Q) := om_q_iadd rfl
theorem x_Lw_law_280 {sc : Int × (Int → Int)} {d : Nat} {z : Int} {L st : List om_V} {h : om_H} {Q : Option om_V → om_H → Prop} : om_R sc d 0 280 L (.inl z :: .inr (.inr 2) :: st) h Q = ((0 ≤ z ∧ z < sc.1) ∧ om_R sc d 0 281 L (.inl (sc.2 z) :: st) h Q) := om_q_sald rfl
theorem x_Lw_law_281 {sc : Int × (Int → Int)} {d : Nat} {l1 l2 l3 : om_V} {st : List om_V} {h : om_H} {Q : Option om_V → om_H → Prop} : om_R sc d 0 281 [.inr (.inr 2), l1, l2, l3] st h Q = om_R sc d 0 282 [.inr (.inr 2), l1, l2, l3] (.inr (.inr 2) :: st) h Q := om_q_sload_n rfl rfl
theorem x_Lw_law_282 {sc : Int × (Int → Int)} {d : Nat} {l0 l1 l2 : om_V} {z : Int} {st : List om_V} {h : om_H} {Q : Option om_V → om_H → Prop} : om_R sc d 0 282 [l0, l1, l2, .inl z] st h Q = om_R sc d 0 283 [l0, l1, l2, .inl z] (.inl z :: st) h Q := om_q_iload_n rfl rfl
theorem x_Lw_law_283 {sc : Int × (Int → Int)} {d : Nat} {L st : List om_V} {h : om_H} {Q : Option om_V → om_H → Prop} : om_R sc d 0 283 L st h Q = om_R sc d 0 284 L (.inl 2 :: st) h Q := om_q_iconst rfl (by decide)
theorem x_Lw_law_284 {sc : Int × (Int → Int)} {d : Nat} {x y : Int} {L st : List om_V} {h : om_H} {Q : Option om_V → om_H → Prop} : om_R sc d 0 284 L (.inl y :: .inl x :: st) h Q = (om_Z (x + y) ∧ om_R sc d 0 285 L (.inl (x + y) :: st) h Q) := om_q_iadd rfl
theorem x_Lw_law_285 {sc : Int × (Int → Int)} {d : Nat} {z : Int} {L st : List om_V} {h : om_H} {Q : Option om_V → om_H → Prop} : om_R sc d 0 285 L (.inl z :: .inr (.inr 2) :: st) h Q = ((0 ≤ z ∧ z < sc.1) ∧ om_R sc d 0 286 L (.inl (sc.2 z) :: st) h Q) := om_q_sald rfl
theorem x_Lw_law_286 {sc : Int × (Int → Int)} {d : Nat} {l1 l2 l3 : om_V} {st : List om_V} {h : om_H} {Q : Option om_V → om_H → Prop} : om_R sc d 0 286 [.inr (.inr 2), l1, l2, l3] st h Q = om_R sc d 0 287 [.inr (.inr 2), l1, l2, l3] (.inr (.inr 2) :: st) h Q := om_q_sload_n rfl rfl
theorem x_Lw_law_287 {sc : Int × (Int → Int)} {d : Nat} {l0 l1 l2 : om_V} {z : Int} {st : List om_V} {h : om_H} {Q : Option om_V → om_H → Prop} : om_R sc d 0 287 [l0, l1, l2, .inl z] st h Q = om_R sc d 0 288 [l0, l1, l2, .inl z] (.inl z :: st) h Q := om_q_iload_n rfl rfl
theorem x_Lw_law_288 {sc : Int × (Int → Int)} {d : Nat} {L st : List om_V} {h : om_H} {Q : Option om_V → om_H → Prop} : om_R sc d 0 288 L st h Q = om_R sc d 0 289 L (.inl 3 :: st) h Q := om_q_iconst rfl (by decide)
theorem x_Lw_law_289 {sc : Int × (Int → Int)} {d : Nat} {x y : Int} {L st : List om_V} {h : om_H} {Q : Option om_V → om_H → Prop} : om_R sc d 0 289 L (.inl y :: .inl x :: st) h Q = (om_Z (x + y) ∧ om_R sc d 0 290 L (.inl (x + y) :: st) h Q) := om_q_iadd rfl
theorem x_Lw_law_290 {sc : Int × (Int → Int)} {d : Nat} {z : Int} {L st : List om_V} {h : om_H} {Q : Option om_V → om_H → Prop} : om_R sc d 0 290 L (.inl z :: .inr (.inr 2) :: st) h Q = ((0 ≤ z ∧ z < sc.1) ∧ om_R sc d 0 291 L (.inl (sc.2 z) :: st) h Q) := om_q_sald rfl
theorem x_Lw_law_291 {sc : Int × (Int → Int)} {d : Nat} {l1 l2 l3 : om_V} {st : List om_V} {h : om_H} {Q : Option om_V → om_H → Prop} : om_R sc d 0 291 [.inr (.inr 2), l1, l2, l3] st h Q = om_R sc d 0 292 [.inr (.inr 2), l1, l2, l3] (.inr (.inr 2) :: st) h Q := om_q_sload_n rfl rfl
theorem x_Lw_law_292 {sc : Int × (Int → Int)} {d : Nat} {l0 l1 l2 : om_V} {z : Int} {st : List om_V} {h : om_H} {Q : Option om_V → om_H → Prop} : om_R sc d 0 292 [l0, l1, l2, .inl z] st h Q = om_R sc d 0 293 [l0, l1, l2, .inl z] (.inl z :: st) h Q := om_q_iload_n rfl rfl
theorem x_Lw_law_293 {sc : Int × (Int → Int)} {d : Nat} {L st : List om_V} {h : om_H} {Q : Option om_V → om_H → Prop} : om_R sc d 0 293 L st h Q = om_R sc d 0 294 L (.inl 4 :: st) h Q := om_q_iconst rfl (by decide)
theorem x_Lw_law_294 {sc : Int × (Int → Int)} {d : Nat} {x y : Int} {L st : List om_V} {h : om_H} {Q : Option om_V → om_H → Prop} : om_R sc d 0 294 L (.inl y :: .inl x :: st) h Q = (om_Z (x + y) ∧ om_R sc d 0 295 L (.inl (x + y) :: st) h Q) := om_q_iadd rfl
theorem x_Lw_law_295 {sc : Int × (Int → Int)} {d : Nat} {z : Int} {L st : List om_V} {h : om_H} {Q : Option om_V → om_H → Prop} : om_R sc d 0 295 L (.inl z :: .inr (.inr 2) :: st) h Q = ((0 ≤ z ∧ z < sc.1) ∧ om_R sc d 0 296 L (.inl (sc.2 z) :: st) h Q) := om_q_sald rfl
theorem x_Lw_law_296 {sc : Int × (Int → Int)} {d : Nat} {a : Nat} {x1 x2 x3 x4 : om_V} {L st : List om_V} {O : List (Nat × Nat × List om_V)} {I : Nat → Int → Int} {Q : Option om_V → om_H → Prop} : om_R sc (d + 1) 0 296 L (x4 :: x3 :: x2 :: x1 :: .inr (.inl a) :: st) (O, I) Q = (om_rv O a 9 ∧ st.length ≤ 8 ∧ om_R sc d 130 0 [.inr (.inl a), x1, x2, x3, x4, om_un] [] (O, I) (fun v h' => om_R sc (d + 1) 0 299 L (v.toList ++ st) h' Q)) := om_q_virt (n := 4) rfl rfl rfl rfl (by simp) rfl
theorem x_Lw_law_299 {sc : Int × (Int → Int)} {d : Nat} {x y : Int} {L st : List om_V} {h : om_H} {Q : Option om_V → om_H → Prop} : om_R sc d 0 299 L (.inl y :: .inl x :: st) h Q = (if x = y then om_R sc d 0 687 L st h Q else om_R sc d 0 302 L st h Q) := om_q_iceq rfl rfl
theorem x_Lw_law_302 {sc : Int × (Int → Int)} {d : Nat} {L st : List om_V} {h : om_H} {Q : Option om_V → om_H → Prop} : om_R sc d 0 302 L st h Q = om_R sc d 0 303 L (.inl 0 :: st) h Q := om_q_iconst rfl (by decide)
theorem x_Lw_law_303 {sc : Int × (Int → Int)} {d : Nat} {z : Int} {L : List om_V} {h : om_H} {Q : Option om_V → om_H → Prop} : om_R sc d 0 303 L [.inl z] h Q = ((z = 0 ∨ z = 1) ∧ Q (some (.inl z)) h) := om_q_zret rfl rfl
theorem x_Lw_law_304 {sc : Int × (Int → Int)} {d : Nat} {l0 l2 l3 : om_V} {a : Nat} {st : List om_V} {h : om_H} {Q : Option om_V → om_H → Prop} : om_R sc d 0 304 [l0, .inr (.inl a), l2, l3] st h Q = om_R sc d 0 305 [l0, .inr (.inl a), l2, l3] (.inr (.inl a) :: st) h Q := om_q_aload_n rfl rfl
theorem x_Lw_law_305 {sc : Int × (Int → Int)} {d : Nat} {l1 l2 l3 : om_V} {st : List om_V} {h : om_H} {Q : Option om_V → om_H → Prop} : om_R sc d 0 305 [.inr (.inr 2), l1, l2, l3] st h Q = om_R sc d 0 306 [.inr (.inr 2), l1, l2, l3] (.inr (.inr 2) :: st) h Q := om_q_sload_n rfl rfl
theorem x_Lw_law_306 {sc : Int × (Int → Int)} {d : Nat} {l0 l1 l2 : om_V} {z : Int} {st : List om_V} {h : om_H} {Q : Option om_V → om_H → Prop} : om_R sc d 0 306 [l0, l1, l2, .inl z] st h Q = om_R sc d 0 307 [l0, l1, l2, .inl z] (.inl z :: st) h Q := om_q_iload_n rfl rfl
theorem x_Lw_law_307 {sc : Int × (Int → Int)} {d : Nat} {L st : List om_V} {h : om_H} {Q : Option om_V → om_H → Prop} : om_R sc d 0 307 L st h Q = om_R sc d 0 308 L (.inl 1 :: st) h Q := om_q_iconst rfl (by decide)
theorem x_Lw_law_308 {sc : Int × (Int → Int)} {d : Nat} {x y : Int} {L st : List om_V} {h : om_H} {Q : Option om_V → om_H → Prop} : om_R sc d 0 308 L (.inl y :: .inl x :: st) h Q = (om_Z (x + y) ∧ om_R sc d 0 309 L (.inl (x + y) :: st) h Q) := om_q_iadd rfl
theorem x_Lw_law_309 {sc : Int × (Int → Int)} {d : Nat} {z : Int} {L st : List om_V} {h : om_H} {Q : Option om_V → om_H → Prop} : om_R sc d 0 309 L (.inl z :: .inr (.inr 2) :: st) h Q = ((0 ≤ z ∧ z < sc.1) ∧ om_R sc d 0 310 L (.inl (sc.2 z) :: st) h Q) := om_q_sald rfl
theorem x_Lw_law_310 {sc : Int × (Int → Int)} {d : Nat} {l1 l2 l3 : om_V} {st : List om_V} {h : om_H} {Q : Option om_V → om_H → Prop} : om_R sc d 0 310 [.inr (.inr 2), l1, l2, l3] st h Q = om_R sc d 0 311 [.inr (.inr 2), l1, l2, l3] (.inr (.inr 2) :: st) h Q := om_q_sload_n rfl rfl
theorem x_Lw_law_311 {sc : Int × (Int → Int)} {d : Nat} {l0 l1 l2 : om_V} {z : Int} {st : List om_V} {h : om_H} {Q : Option om_V → om_H → Prop} : om_R sc d 0 311 [l0, l1, l2, .inl z] st h Q = om_R sc d 0 312 [l0, l1, l2, .inl z] (.inl z :: st) h Q := om_q_iload_n rfl rfl
theorem x_Lw_law_312 {sc : Int × (Int → Int)} {d : Nat} {L st : List om_V} {h : om_H} {Q : Option om_V → om_H → Prop} : om_R sc d 0 312 L st h Q = om_R sc d 0 313 L (.inl 2 :: st) h Q := om_q_iconst rfl (by decide)
theorem x_Lw_law_313 {sc : Int × (Int → Int)} {d : Nat} {x y : Int} {L st : List om_V} {h : om_H} {Q : Option om_V → om_H → Prop} : om_R sc d 0 313 L (.inl y :: .inl x :: st) h Q = (om_Z (x + y) ∧ om_R sc d 0 314 L (.inl (x + y) :: st) h Q) := om_q_iadd rfl
theorem x_Lw_law_314 {sc : Int × (Int → Int)} {d : Nat} {z : Int} {L st : List om_V} {h : om_H} {Q : Option om_V → om_H → Prop} : om_R sc d 0 314 L (.inl z :: .inr (.inr 2) :: st) h Q = ((0 ≤ z ∧ z < sc.1) ∧ om_R sc d 0 315 L (.inl (sc.2 z) :: st) h Q) := om_q_sald rfl
theorem x_Lw_law_315 {sc : Int × (Int → Int)} {d : Nat} {l1 l2 l3 : om_V} {st : List om_V} {h : om_H} {Q : Option om_V → om_H → Prop} : om_R sc d 0 315 [.inr (.inr 2), l1, l2, l3] st h Q = om_R sc d 0 316 [.inr (.inr 2), l1, l2, l3] (.inr (.inr 2) :: st) h Q := om_q_sload_n rfl rfl
theorem x_Lw_law_316 {sc : Int × (Int → Int)} {d : Nat} {l0 l1 l2 : om_V} {z : Int} {st : List om_V} {h : om_H} {Q : Option om_V → om_H → Prop} : om_R sc d 0 316 [l0, l1, l2, .inl z] st h Q = om_R sc d 0 317 [l0, l1, l2, .inl z] (.inl z :: st) h Q := om_q_iload_n rfl rfl
theorem x_Lw_law_317 {sc : Int × (Int → Int)} {d : Nat} {L st : List om_V} {h : om_H} {Q : Option om_V → om_H → Prop} : om_R sc d 0 317 L st h Q = om_R sc d 0 318 L (.inl 3 :: st) h Q := om_q_iconst rfl (by decide)
theorem x_Lw_law_318 {sc : Int × (Int → Int)} {d : Nat} {x y : Int} {L st : List om_V} {h : om_H} {Q : Option om_V → om_H → Prop} : om_R sc d 0 318 L (.inl y :: .inl x :: st) h Q = (om_Z (x + y) ∧ om_R sc d 0 319 L (.inl (x + y) :: st) h Q) := om_q_iadd rfl
theorem x_Lw_law_319 {sc : Int × (Int → Int)} {d : Nat} {z : Int} {L st : List om_V} {h : om_H} {Q : Option om_V → om_H → Prop} : om_R sc d 0 319 L (.inl z :: .inr (.inr 2) :: st) h Q = ((0 ≤ z ∧ z < sc.1) ∧ om_R sc d 0 320 L (.inl (sc.2 z) :: st) h Q) := om_q_sald rfl
theorem x_Lw_law_320 {sc : Int × (Int → Int)} {d : Nat} {a : Nat} {x1 x2 x3 : om_V} {L st : List om_V} {O : List (Nat × Nat × List om_V)} {I : Nat → Int → Int} {Q : Option om_V → om_H → Prop} : om_R sc (d + 1) 0 320 L (x3 :: x2 :: x1 :: .inr (.inl a) :: st) (O, I) Q = (om_rv O a 8 ∧ st.length ≤ 8 ∧ om_R sc d 52 0 [.inr (.inl a), x1, x2, x3] [] (O, I) (fun v h' => om_R sc (d + 1) 0 323 L (v.toList ++ st) h' Q)) := om_q_virt (n := 3) rfl rfl rfl rfl (by simp) rfl
theorem x_Lw_law_323 {sc : Int × (Int → Int)} {d : Nat} {l0 l1 l3 : om_V} {a : Nat} {st : List om_V} {h : om_H} {Q : Option om_V → om_H → Prop} : om_R sc d 0 323 [l0, l1, .inr (.inl a), l3] st h Q = om_R sc d 0 324 [l0, l1, .inr (.inl a), l3] (.inr (.inl a) :: st) h Q := om_q_aload_n rfl rfl
theorem x_Lw_law_324 {sc : Int × (Int → Int)} {d : Nat} {l1 l2 l3 : om_V} {st : List om_V} {h : om_H} {Q : Option om_V → om_H → Prop} : om_R sc d 0 324 [.inr (.inr 2), l1, l2, l3] st h Q = om_R sc d 0 325 [.inr (.inr 2), l1, l2, l3] (.inr (.inr 2) :: st) h Q := om_q_sload_n rfl rfl
theorem x_Lw_law_325 {sc : Int × (Int → Int)} {d : Nat} {l0 l1 l2 : om_V} {z : Int} {st : List om_V} {h : om_H} {Q : Option om_V → om_H → Prop} : om_R sc d 0 325 [l0, l1, l2, .inl z] st h Q = om_R sc d 0 326 [l0, l1, l2, .inl z] (.inl z :: st) h Q := om_q_iload_n rfl rfl
theorem x_Lw_law_326 {sc : Int × (Int → Int)} {d : Nat} {L st : List om_V} {h : om_H} {Q : Option om_V → om_H → Prop} : om_R sc d 0 326 L st h Q = om_R sc d 0 327 L (.inl 1 :: st) h Q := om_q_iconst rfl (by decide)
theorem x_Lw_law_327 {sc : Int × (Int → Int)} {d : Nat} {x y : Int} {L st : List om_V} {h : om_H} {Q : Option om_V → om_H → Prop} : om_R sc d 0 327 L (.inl y :: .inl x :: st) h Q = (om_Z (x + y) ∧ om_R sc d 0 328 L (.inl (x + y) :: st) h Q) := om_q_iadd rfl
theorem x_Lw_law_328 {sc : Int × (Int → Int)} {d : Nat} {z : Int} {L st : List om_V} {h : om_H} {Q : Option om_V → om_H → Prop} : om_R sc d 0 328 L (.inl z :: .inr (.inr 2) :: st) h Q = ((0 ≤ z ∧ z < sc.1) ∧ om_R sc d 0 329 L (.inl (sc.2 z) :: st) h Q) := om_q_sald rfl
theorem x_Lw_law_329 {sc : Int × (Int → Int)} {d : Nat} {l1 l2 l3 : om_V} {st : List om_V} {h : om_H} {Q : Option om_V → om_H → Prop} : om_R sc d 0 329 [.inr (.inr 2), l1, l2, l3] st h Q = om_R sc d 0 330 [.inr (.inr 2), l1, l2, l3] (.inr (.inr 2) :: st) h Q := om_q_sload_n rfl rfl
theorem x_Lw_law_330 {sc : Int × (Int → Int)} {d : Nat} {l0 l1 l2 : om_V} {z : Int} {st : List om_V} {h : om_H} {Q : Option om_V → om_H → Prop} : om_R sc d 0 330 [l0, l1, l2, .inl z] st h Q = om_R sc d 0 331 [l0, l1, l2, .inl z] (.inl z :: st) h Q := om_q_iload_n rfl rfl
theorem x_Lw_law_331 {sc : Int × (Int → Int)} {d : Nat} {L st : List om_V} {h : om_H} {Q : Option om_V → om_H → Prop} : om_R sc d 0 331 L st h Q = om_R sc d 0 332 L (.inl 2 :: st) h Q := om_q_iconst rfl (by decide)
theorem x_Lw_law_332 {sc : Int × (Int → Int)} {d : Nat} {x y : Int} {L st : List om_V} {h : om_H} {Q : Option om_V → om_H → Prop} : om_R sc d 0 332 L (.inl y :: .inl x :: st) h Q = (om_Z (x + y) ∧ om_R sc d 0 333 L (.inl (x + y) :: st) h Q) := om_q_iadd rfl
theorem x_Lw_law_333 {sc : Int × (Int → Int)} {d : Nat} {z : Int} {L st : List om_V} {h : om_H} {Q : Option om_V → om_H → Prop} : om_R sc d 0 333 L (.inl z :: .inr (.inr 2) :: st) h Q = ((0 ≤ z ∧ z < sc.1) ∧ om_R sc d 0 334 L (.inl (sc.2 z) :: st) h Q) := om_q_sald rfl
theorem x_Lw_law_334 {sc : Int × (Int → Int)} {d : Nat} {l1 l2 l3 : om_V} {st : List om_V} {h : om_H} {Q : Option om_V → om_H → Prop} : om_R sc d 0 334 [.inr (.inr 2), l1, l2, l3] st h Q = om_R sc d 0 335 [.inr (.inr 2), l1, l2, l3] (.inr (.inr 2) :: st) h Q := om_q_sload_n rfl rfl
theorem x_Lw_law_335 {sc : Int × (Int → Int)} {d : Nat} {l0 l1 l2 : om_V} {z : Int} {st : List om_V} {h : om_H} {Q : Option om_V → om_H → Prop} : om_R sc d 0 335 [l0, l1, l2, .inl z] st h Q = om_R sc d 0 336 [l0, l1, l2, .inl z] (.inl z :: st) h Q := om_q_iload_n rfl rfl
theorem x_Lw_law_336 {sc : Int × (Int → Int)} {d : Nat} {L st : List om_V} {h : om_H} {Q : Option om_V → om_H → Prop} : om_R sc d 0 336 L st h Q = om_R sc d 0 337 L (.inl 3 :: st) h Q := om_q_iconst rfl (by decide)
theorem x_Lw_law_337 {sc : Int × (Int → Int)} {d : Nat} {x y : Int} {L st : List om_V} {h : om_H} {Q : Option om_V → om_H → Prop} : om_R sc d 0 337 L (.inl y :: .inl x :: st) h Q = (om_Z (x + y) ∧ om_R sc d 0 338 L (.inl (x + y) :: st) h Q) := om_q_iadd rfl
theorem x_Lw_law_338 {sc : Int × (Int → Int)} {d : Nat} {z : Int} {L st : List om_V} {h : om_H} {Q : Option om_V → om_H → Prop} : om_R sc d 0 338 L (.inl z :: .inr (.inr 2) :: st) h Q = ((0 ≤ z ∧ z < sc.1) ∧ om_R sc d 0 339 L (.inl (sc.2 z) :: st) h Q) := om_q_sald rfl
theorem x_Lw_law_339 {sc : Int × (Int → Int)} {d : Nat} {a : Nat} {x1 x2 x3 : om_V} {L st : List om_V} {O : List (Nat × Nat × List om_V)} {I : Nat → Int → Int} {Q : Option om_V → om_H → Prop} : om_R sc (d + 1) 0 339 L (x3 :: x2 :: x1 :: .inr (.inl a) :: st) (O, I) Q = (om_rv O a 9 ∧ st.length ≤ 8 ∧ om_R sc d 131 0 [.inr (.inl a), x1, x2, x3] [] (O, I) (fun v h' => om_R sc (d + 1) 0 342 L (v.toList ++ st) h' Q)) := om_q_virt (n := 3) rfl rfl rfl rfl (by simp) rfl
theorem x_Lw_law_342 {sc : Int × (Int → Int)} {d : Nat} {x y : Int} {L st : List om_V} {h : om_H} {Q : Option om_V → om_H → Prop} : om_R sc d 0 342 L (.inl y :: .inl x :: st) h Q = (if x = y then om_R sc d 0 687 L st h Q else om_R sc d 0 345 L st h Q) := om_q_iceq rfl rfl
theorem x_Lw_law_345 {sc : Int × (Int → Int)} {d : Nat} {L st : List om_V} {h : om_H} {Q : Option om_V → om_H → Prop} : om_R sc d 0 345 L st h Q = om_R sc d 0 346 L (.inl 0 :: st) h Q := om_q_iconst rfl (by decide)
theorem x_Lw_law_346 {sc : Int × (Int → Int)} {d : Nat} {z : Int} {L : List om_V} {h : om_H} {Q : Option om_V → om_H → Prop} : om_R sc d 0 346 L [.inl z] h Q = ((z = 0 ∨ z = 1) ∧ Q (some (.inl z)) h) := om_q_zret rfl rfl
theorem x_Lw_law_347 {sc : Int × (Int → Int)} {d : Nat} {l0 l2 l3 : om_V} {a : Nat} {st : List om_V} {h : om_H} {Q : Option om_V → om_H → Prop} : om_R sc d 0 347 [l0, .inr (.inl a), l2, l3] st h Q = om_R sc d 0 348 [l0, .inr (.inl a), l2, l3] (.inr (.inl a) :: st) h Q := om_q_aload_n rfl rfl
theorem x_Lw_law_348 {sc : Int × (Int → Int)} {d : Nat} {l1 l2 l3 : om_V} {st : List om_V} {h : om_H} {Q : Option om_V → om_H → Prop} : om_R sc d 0 348 [.inr (.inr 2), l1, l2, l3] st h Q = om_R sc d 0 349 [.inr (.inr 2), l1, l2, l3] (.inr (.inr 2) :: st) h Q := om_q_sload_n rfl rfl
theorem x_Lw_law_349 {sc : Int × (Int → Int)} {d : Nat} {l0 l1 l2 : om_V} {z : Int} {st : List om_V} {h : om_H} {Q : Option om_V → om_H → Prop} : om_R sc d 0 349 [l0, l1, l2, .inl z] st h Q = om_R sc d 0 350 [l0, l1, l2, .inl z] (.inl z :: st) h Q := om_q_iload_n rfl rfl
theorem x_Lw_law_350 {sc : Int × (Int → Int)} {d : Nat} {L st : List om_V} {h : om_H} {Q : Option om_V → om_H → Prop} : om_R sc d 0 350 L st h Q = om_R sc d 0 351 L (.inl 1 :: st) h Q := om_q_iconst rfl (by decide)
theorem x_Lw_law_351 {sc : Int × (Int → Int)} {d : Nat} {x y : Int} {L st : List om_V} {h : om_H} {Q : Option om_V → om_H → Prop} : om_R sc d 0 351 L (.inl y :: .inl x :: st) h Q = (om_Z (x + y) ∧ om_R sc d 0 352 L (.inl (x + y) :: st) h Q) := om_q_iadd rfl
theorem x_Lw_law_352 {sc : Int × (Int → Int)} {d : Nat} {z : Int} {L st : List om_V} {h : om_H} {Q : Option om_V → om_H → Prop} : om_R sc d 0 352 L (.inl z :: .inr (.inr 2) :: st) h Q = ((0 ≤ z ∧ z < sc.1) ∧ om_R sc d 0 353 L (.inl (sc.2 z) :: st) h Q) := om_q_sald rfl
theorem x_Lw_law_353 {sc : Int × (Int → Int)} {d : Nat} {l1 l2 l3 : om_V} {st : List om_V} {h : om_H} {Q : Option om_V → om_H → Prop} : om_R sc d 0 353 [.inr (.inr 2), l1, l2, l3] st h Q = om_R sc d 0 354 [.inr (.inr 2), l1, l2, l3] (.inr (.inr 2) :: st) h Q := om_q_sload_n rfl rfl
theorem x_Lw_law_354 {sc : Int × (Int → Int)} {d : Nat} {l0 l1 l2 : om_V} {z : Int} {st : List om_V} {h : om_H} {Q : Option om_V → om_H → Prop} : om_R sc d 0 354 [l0, l1, l2, .inl z] st h Q = om_R sc d 0 355 [l0, l1, l2, .inl z] (.inl z :: st) h Q := om_q_iload_n rfl rfl
theorem x_Lw_law_355 {sc : Int × (Int → Int)} {d : Nat} {L st : List om_V} {h : om_H} {Q : Option om_V → om_H → Prop} : om_R sc d 0 355 L st h Q = om_R sc d 0 356 L (.inl 2 :: st) h Q := om_q_iconst rfl (by decide)
theorem x_Lw_law_356 {sc : Int × (Int → Int)} {d : Nat} {x y : Int} {L st : List om_V} {h : om_H} {Q : Option om_V → om_H → Prop} : om_R sc d 0 356 L (.inl y :: .inl x :: st) h Q = (om_Z (x + y) ∧ om_R sc d 0 357 L (.inl (x + y) :: st) h Q) := om_q_iadd rfl
theorem x_Lw_law_357 {sc : Int × (Int → Int)} {d : Nat} {z : Int} {L st : List om_V} {h : om_H} {Q : Option om_V → om_H → Prop} : om_R sc d 0 357 L (.inl z :: .inr (.inr 2) :: st) h Q = ((0 ≤ z ∧ z < sc.1) ∧ om_R sc d 0 358 L (.inl (sc.2 z) :: st) h Q) := om_q_sald rfl
theorem x_Lw_law_358 {sc : Int × (Int → Int)} {d : Nat} {l1 l2 l3 : om_V} {st : List om_V} {h : om_H} {Q : Option om_V → om_H → Prop} : om_R sc d 0 358 [.inr (.inr 2), l1, l2, l3] st h Q = om_R sc d 0 359 [.inr (.inr 2), l1, l2, l3] (.inr (.inr 2) :: st) h Q := om_q_sload_n rfl rfl
theorem x_Lw_law_359 {sc : Int × (Int → Int)} {d : Nat} {l0 l1 l2 : om_V} {z : Int} {st : List om_V} {h : om_H} {Q : Option om_V → om_H → Prop} : om_R sc d 0 359 [l0, l1, l2, .inl z] st h Q = om_R sc d 0 360 [l0, l1, l2, .inl z] (.inl z :: st) h Q := om_q_iload_n rfl rfl
theorem x_Lw_law_360 {sc : Int × (Int → Int)} {d : Nat} {L st : List om_V} {h : om_H} {Q : Option om_V → om_H → Prop} : om_R sc d 0 360 L st h Q = om_R sc d 0 361 L (.inl 3 :: st) h Q := om_q_iconst rfl (by decide)
theorem x_Lw_law_361 {sc : Int × (Int → Int)} {d : Nat} {x y : Int} {L st : List om_V} {h : om_H} {Q : Option om_V → om_H → Prop} : om_R sc d 0 361 L (.inl y :: .inl x :: st) h Q = (om_Z (x + y) ∧ om_R sc d 0 362 L (.inl (x + y) :: st) h Q) := om_q_iadd rfl
theorem x_Lw_law_362 {sc : Int × (Int → Int)} {d : Nat} {z : Int} {L st : List om_V} {h : om_H} {Q : Option om_V → om_H → Prop} : om_R sc d 0 362 L (.inl z :: .inr (.inr 2) :: st) h Q = ((0 ≤ z ∧ z < sc.1) ∧ om_R sc d 0 363 L (.inl (sc.2 z) :: st) h Q) := om_q_sald rfl
theorem x_Lw_law_363 {sc : Int × (Int → Int)} {d : Nat} {a : Nat} {x1 x2 x3 : om_V} {L st : List om_V} {O : List (Nat × Nat × List om_V)} {I : Nat → Int → Int} {Q : Option om_V → om_H → Prop} : om_R sc (d + 1) 0 363 L (x3 :: x2 :: x1 :: .inr (.inl a) :: st) (O, I) Q = (om_rv O a 8 ∧ st.length ≤ 8 ∧ om_R sc d 53 0 [.inr (.inl a), x1, x2, x3] [] (O, I) (fun v h' => om_R sc (d + 1) 0 366 L (v.toList ++ st) h' Q)) := om_q_virt (n := 3) rfl rfl rfl rfl (by simp) rfl
theorem x_Lw_law_366 {sc : Int × (Int → Int)} {d : Nat} {l0 l1 l3 : om_V} {a : Nat} {st : List om_V} {h : om_H} {Q : Option om_V → om_H → Prop} : om_R sc d 0 366 [l0, l1, .inr (.inl a), l3] st h Q = om_R sc d 0 367 [l0, l1, .inr (.inl a), l3] (.inr (.inl a) :: st) h Q := om_q_aload_n rfl rfl
theorem x_Lw_law_367 {sc : Int × (Int → Int)} {d : Nat} {l1 l2 l3 : om_V} {st : List om_V} {h : om_H} {Q : Option om_V → om_H → Prop} : om_R sc d 0 367 [.inr (.inr 2), l1, l2, l3] st h Q = om_R sc d 0 368 [.inr (.inr 2), l1, l2, l3] (.inr (.inr 2) :: st) h Q := om_q_sload_n rfl rfl
theorem x_Lw_law_368 {sc : Int × (Int → Int)} {d : Nat} {l0 l1 l2 : om_V} {z : Int} {st : List om_V} {h : om_H} {Q : Option om_V → om_H → Prop} : om_R sc d 0 368 [l0, l1, l2, .inl z] st h Q = om_R sc d 0 369 [l0, l1, l2, .inl z] (.inl z :: st) h Q := om_q_iload_n rfl rfl
theorem x_Lw_law_369 {sc : Int × (Int → Int)} {d : Nat} {L st : List om_V} {h : om_H} {Q : Option om_V → om_H → Prop} : om_R sc d 0 369 L st h Q = om_R sc d 0 370 L (.inl 1 :: st) h Q := om_q_iconst rfl (by decide)
theorem x_Lw_law_370 {sc : Int × (Int → Int)} {d : Nat} {x y : Int} {L st : List om_V} {h : om_H} {Q : Option om_V → om_H → Prop} : om_R sc d 0 370 L (.inl y :: .inl x :: st) h Q = (om_Z (x + y) ∧ om_R sc d 0 371 L (.inl (x + y) :: st) h Q) := om_q_iadd rfl
theorem x_Lw_law_371 {sc : Int × (Int → Int)} {d : Nat} {z : Int} {L st : List om_V} {h : om_H} {Q : Option om_V → om_H → Prop} : om_R sc d 0 371 L (.inl z :: .inr (.inr 2) :: st) h Q = ((0 ≤ z ∧ z < sc.1) ∧ om_R sc d 0 372 L (.inl (sc.2 z) :: st) h Q) := om_q_sald rfl
theorem x_Lw_law_372 {sc : Int × (Int → Int)} {d : Nat} {l1 l2 l3 : om_V} {st : List om_V} {h : om_H} {Q : Option om_V → om_H → Prop} : om_R sc d 0 372 [.inr (.inr 2), l1, l2, l3] st h Q = om_R sc d 0 373 [.inr (.inr 2), l1, l2, l3] (.inr (.inr 2) :: st) h Q := om_q_sload_n rfl rfl
theorem x_Lw_law_373 {sc : Int × (Int → Int)} {d : Nat} {l0 l1 l2 : om_V} {z : Int} {st : List om_V} {h : om_H} {Q : Option om_V → om_H → Prop} : om_R sc d 0 373 [l0, l1, l2, .inl z] st h Q = om_R sc d 0 374 [l0, l1, l2, .inl z] (.inl z :: st) h Q := om_q_iload_n rfl rfl
theorem x_Lw_law_374 {sc : Int × (Int → Int)} {d : Nat} {L st : List om_V} {h : om_H} {Q : Option om_V → om_H → Prop} : om_R sc d 0 374 L st h Q = om_R sc d 0 375 L (.inl 2 :: st) h Q := om_q_iconst rfl (by decide)
theorem x_Lw_law_375 {sc : Int × (Int → Int)} {d : Nat} {x y : Int} {L st : List om_V} {h : om_H} {Q : Option om_V → om_H → Prop} : om_R sc d 0 375 L (.inl y :: .inl x :: st) h Q = (om_Z (x + y) ∧ om_R sc d 0 376 L (.inl (x + y) :: st) h Q) := om_q_iadd rfl
theorem x_Lw_law_376 {sc : Int × (Int → Int)} {d : Nat} {z : Int} {L st : List om_V} {h : om_H} {Q : Option om_V → om_H → Prop} : om_R sc d 0 376 L (.inl z :: .inr (.inr 2) :: st) h Q = ((0 ≤ z ∧ z < sc.1) ∧ om_R sc d 0 377 L (.inl (sc.2 z) :: st) h Q) := om_q_sald rfl
theorem x_Lw_law_377 {sc : Int × (Int → Int)} {d : Nat} {l1 l2 l3 : om_V} {st : List om_V} {h : om_H} {Q : Option om_V → om_H → Prop} : om_R sc d 0 377 [.inr (.inr 2), l1, l2, l3] st h Q = om_R sc d 0 378 [.inr (.inr 2), l1, l2, l3] (.inr (.inr 2) :: st) h Q := om_q_sload_n rfl rfl
theorem x_Lw_law_378 {sc : Int × (Int → Int)} {d : Nat} {l0 l1 l2 : om_V} {z : Int} {st : List om_V} {h : om_H} {Q : Option om_V → om_H → Prop} : om_R sc d 0 378 [l0, l1, l2, .inl z] st h Q = om_R sc d 0 379 [l0, l1, l2, .inl z] (.inl z :: st) h Q := om_q_iload_n rfl rfl
theorem x_Lw_law_379 {sc : Int × (Int → Int)} {d : Nat} {L st : List om_V} {h : om_H} {Q : Option om_V → om_H → Prop} : om_R sc d 0 379 L st h Q = om_R sc d 0 380 L (.inl 3 :: st) h Q := om_q_iconst rfl (by decide)
theorem x_Lw_law_380 {sc : Int × (Int → Int)} {d : Nat} {x y : Int} {L st : List om_V} {h : om_H} {Q : Option om_V → om_H → Prop} : om_R sc d 0 380 L (.inl y :: .inl x :: st) h Q = (om_Z (x + y) ∧ om_R sc d 0 381 L (.inl (x + y) :: st) h Q) := om_q_iadd rfl
theorem x_Lw_law_381 {sc : Int × (Int → Int)} {d : Nat} {z : Int} {L st : List om_V} {h : om_H} {Q : Option om_V → om_H → Prop} : om_R sc d 0 381 L (.inl z :: .inr (.inr 2) :: st) h Q = ((0 ≤ z ∧ z < sc.1) ∧ om_R sc d 0 382 L (.inl (sc.2 z) :: st) h Q) := om_q_sald rfl
theorem x_Lw_law_382 {sc : Int × (Int → Int)} {d : Nat} {a : Nat} {x1 x2 x3 : om_V} {L st : List om_V} {O : List (Nat × Nat × List om_V)} {I : Nat → Int → Int} {Q : Option om_V → om_H → Prop} : om_R sc (d + 1) 0 382 L (x3 :: x2 :: x1 :: .inr (.inl a) :: st) (O, I) Q = (om_rv O a 9 ∧ st.length ≤ 8 ∧ om_R sc d 132 0 [.inr (.inl a), x1, x2, x3] [] (O, I) (fun v h' => om_R sc (d + 1) 0 385 L (v.toList ++ st) h' Q)) := om_q_virt (n := 3) rfl rfl rfl rfl (by simp) rfl
theorem x_Lw_law_385 {sc : Int × (Int → Int)} {d : Nat} {x y : Int} {L st : List om_V} {h : om_H} {Q : Option om_V → om_H → Prop} : om_R sc d 0 385 L (.inl y :: .inl x :: st) h Q = (if x = y then om_R sc d 0 687 L st h Q else om_R sc d 0 388 L st h Q) := om_q_iceq rfl rfl
theorem x_Lw_law_388 {sc : Int × (Int → Int)} {d : Nat} {L st : List om_V} {h : om_H} {Q : Option om_V → om_H → Prop} : om_R sc d 0 388 L st h Q = om_R sc d 0 389 L (.inl 0 :: st) h Q := om_q_iconst rfl (by decide)
theorem x_Lw_law_389 {sc : Int × (Int → Int)} {d : Nat} {z : Int} {L : List om_V} {h : om_H} {Q : Option om_V → om_H → Prop} : om_R sc d 0 389 L [.inl z] h Q = ((z = 0 ∨ z = 1) ∧ Q (some (.inl z)) h) := om_q_zret rfl rfl
theorem x_Lw_law_390 {sc : Int × (Int → Int)} {d : Nat} {l0 l2 l3 : om_V} {a : Nat} {st : List om_V} {h : om_H} {Q : Option om_V → om_H → Prop} : om_R sc d 0 390 [l0, .inr (.inl a), l2, l3] st h Q = om_R sc d 0 391 [l0, .inr (.inl a), l2, l3] (.inr (.inl a) :: st) h Q := om_q_aload_n rfl rfl
theorem x_Lw_law_391 {sc : Int × (Int → Int)} {d : Nat} {l1 l2 l3 : om_V} {st : List om_V} {h : om_H} {Q : Option om_V → om_H → Prop} : om_R sc d 0 391 [.inr (.inr 2), l1, l2, l3] st h Q = om_R sc d 0 392 [.inr (.inr 2), l1, l2, l3] (.inr (.inr 2) :: st) h Q := om_q_sload_n rfl rfl
theorem x_Lw_law_392 {sc : Int × (Int → Int)} {d : Nat} {l0 l1 l2 : om_V} {z : Int} {st : List om_V} {h : om_H} {Q : Option om_V → om_H → Prop} : om_R sc d 0 392 [l0, l1, l2, .inl z] st h Q = om_R sc d 0 393 [l0, l1, l2, .inl z] (.inl z :: st) h Q := om_q_iload_n rfl rfl
theorem x_Lw_law_393 {sc : Int × (Int → Int)} {d : Nat} {L st : List om_V} {h : om_H} {Q : Option om_V → om_H → Prop} : om_R sc d 0 393 L st h Q = om_R sc d 0 394 L (.inl 1 :: st) h Q := om_q_iconst rfl (by decide)
theorem x_Lw_law_394 {sc : Int × (Int → Int)} {d : Nat} {x y : Int} {L st : List om_V} {h : om_H} {Q : Option om_V → om_H → Prop} : om_R sc d 0 394 L (.inl y :: .inl x :: st) h Q = (om_Z (x + y) ∧ om_R sc d 0 395 L (.inl (x + y) :: st) h Q) := om_q_iadd rfl
theorem x_Lw_law_395 {sc : Int × (Int → Int)} {d : Nat} {z : Int} {L st : List om_V} {h : om_H} {Q : Option om_V → om_H → Prop} : om_R sc d 0 395 L (.inl z :: .inr (.inr 2) :: st) h Q = ((0 ≤ z ∧ z < sc.1) ∧ om_R sc d 0 396 L (.inl (sc.2 z) :: st) h Q) := om_q_sald rfl
theorem x_Lw_law_396 {sc : Int × (Int → Int)} {d : Nat} {l1 l2 l3 : om_V} {st : List om_V} {h : om_H} {Q : Option om_V → om_H → Prop} : om_R sc d 0 396 [.inr (.inr 2), l1, l2, l3] st h Q = om_R sc d 0 397 [.inr (.inr 2), l1, l2, l3] (.inr (.inr 2) :: st) h Q := om_q_sload_n rfl rfl
theorem x_Lw_law_397 {sc : Int × (Int → Int)} {d : Nat} {l0 l1 l2 : om_V} {z : Int} {st : List om_V} {h : om_H} {Q : Option om_V → om_H → Prop} : om_R sc d 0 397 [l0, l1, l2, .inl z] st h Q = om_R sc d 0 398 [l0, l1, l2, .inl z] (.inl z :: st) h Q := om_q_iload_n rfl rfl
theorem x_Lw_law_398 {sc : Int × (Int → Int)} {d : Nat} {L st : List om_V} {h : om_H} {Q : Option om_V → om_H → Prop} : om_R sc d 0 398 L st h Q = om_R sc d 0 399 L (.inl 2 :: st) h Q := om_q_iconst rfl (by decide)
theorem x_Lw_law_399 {sc : Int × (Int → Int)} {d : Nat} {x y : Int} {L st : List om_V} {h : om_H} {Q : Option om_V → om_H → Prop} : om_R sc d 0 399 L (.inl y :: .inl x :: st) h Q = (om_Z (x + y) ∧ om_R sc d 0 400 L (.inl (x + y) :: st) h Q) := om_q_iadd rfl
theorem x_Lw_law_400 {sc : Int × (Int → Int)} {d : Nat} {z : Int} {L st : List om_V} {h : om_H} {Q : Option om_V → om_H → Prop} : om_R sc d 0 400 L (.inl z :: .inr (.inr 2) :: st) h Q = ((0 ≤ z ∧ z < sc.1) ∧ om_R sc d 0 401 L (.inl (sc.2 z) :: st) h Q) := om_q_sald rfl
set_option maxRecDepth 100000 in
theorem x_Lw_law_401 {sc : Int × (Int → Int)} {d : Nat} {l1 l2 l3 : om_V} {st : List om_V} {h : om_H} {Q : Option om_V → om_H → Prop} : om_R sc d 0 401 [.inr (.inr 2), l1, l2, l3] st h Q = om_R sc d 0 402 [.inr (.inr 2), l1, l2, l3] (.inr (.inr 2) :: st) h Q := om_q_sload_n rfl rfl
set_option maxRecDepth 100000 in
theorem x_Lw_law_402 {sc : Int × (Int → Int)} {d : Nat} {l0 l1 l2 : om_V} {z : Int} {st : List om_V} {h : om_H} {Q : Option om_V → om_H → Prop} : om_R sc d 0 402 [l0, l1, l2, .inl z] st h Q = om_R sc d 0 403 [l0, l1, l2, .inl z] (.inl z :: st) h Q := om_q_iload_n rfl rfl
set_option maxRecDepth 100000 in
theorem x_Lw_law_403 {sc : Int × (Int → Int)} {d : Nat} {L st : List om_V} {h : om_H} {Q : Option om_V → om_H → Prop} : om_R sc d 0 403 L st h Q = om_R sc d 0 404 L (.inl 3 :: st) h Q := om_q_iconst rfl (by decide)
set_option maxRecDepth 100000 in
theorem x_Lw_law_404 {sc : Int × (Int → Int)} {d : Nat} {x y : Int} {L st : List om_V} {h : om_H} {Q : Option om_V → om_H → Prop} : om_R sc d 0 404 L (.inl y :: .inl x :: st) h Q = (om_Z (x + y) ∧ om_R sc d 0 405 L (.inl (x + y) :: st) h Q) := om_q_iadd rfl
set_option maxRecDepth 100000 in
theorem x_Lw_law_405 {sc : Int × (Int → Int)} {d : Nat} {z : Int} {L st : List om_V} {h : om_H} {Q : Option om_V → om_H → Prop} : om_R sc d 0 405 L (.inl z :: .inr (.inr 2) :: st) h Q = ((0 ≤ z ∧ z < sc.1) ∧ om_R sc d 0 406 L (.inl (sc.2 z) :: st) h Q) := om_q_sald rfl
set_option maxRecDepth 100000 in
theorem x_Lw_law_406 {sc : Int × (Int → Int)} {d : Nat} {l1 l2 l3 : om_V} {st : List om_V} {h : om_H} {Q : Option om_V → om_H → Prop} : om_R sc d 0 406 [.inr (.inr 2), l1, l2, l3] st h Q = om_R sc d 0 407 [.inr (.inr 2), l1, l2, l3] (.inr (.inr 2) :: st) h Q := om_q_sload_n rfl rfl
set_option maxRecDepth 100000 in
theorem x_Lw_law_407 {sc : Int × (Int → Int)} {d : Nat} {l0 l1 l2 : om_V} {z : Int} {st : List om_V} {h : om_H} {Q : Option om_V → om_H → Prop} : om_R sc d 0 407 [l0, l1, l2, .inl z] st h Q = om_R sc d 0 408 [l0, l1, l2, .inl z] (.inl z :: st) h Q := om_q_iload_n rfl rfl
set_option maxRecDepth 100000 in
theorem x_Lw_law_408 {sc : Int × (Int → Int)} {d : Nat} {L st : List om_V} {h : om_H} {Q : Option om_V → om_H → Prop} : om_R sc d 0 408 L st h Q = om_R sc d 0 409 L (.inl 4 :: st) h Q := om_q_iconst rfl (by decide)
set_option maxRecDepth 100000 in
theorem x_Lw_law_409 {sc : Int × (Int → Int)} {d : Nat} {x y : Int} {L st : List om_V} {h : om_H} {Q : Option om_V → om_H → Prop} : om_R sc d 0 409 L (.inl y :: .inl x :: st) h Q = (om_Z (x + y) ∧ om_R sc d 0 410 L (.inl (x + y) :: st) h Q) := om_q_iadd rfl
set_option maxRecDepth 100000 in
theorem x_Lw_law_410 {sc : Int × (Int → Int)} {d : Nat} {z : Int} {L st : List om_V} {h : om_H} {Q : Option om_V → om_H → Prop} : om_R sc d 0 410 L (.inl z :: .inr (.inr 2) :: st) h Q = ((0 ≤ z ∧ z < sc.1) ∧ om_R sc d 0 411 L (.inl (sc.2 z) :: st) h Q) := om_q_sald rfl
set_option maxRecDepth 100000 in
theorem x_Lw_law_411 {sc : Int × (Int → Int)} {d : Nat} {a : Nat} {x1 x2 x3 x4 : om_V} {L st : List om_V} {O : List (Nat × Nat × List om_V)} {I : Nat → Int → Int} {Q : Option om_V → om_H → Prop} : om_R sc (d + 1) 0 411 L (x4 :: x3 :: x2 :: x1 :: .inr (.inl a) :: st) (O, I) Q = (om_rv O a 8 ∧ st.length ≤ 8 ∧ om_R sc d 57 0 [.inr (.inl a), x1, x2, x3, x4] [] (O, I) (fun v h' => om_R sc (d + 1) 0 414 L (v.toList ++ st) h' Q)) := om_q_virt (n := 4) rfl rfl rfl rfl (by simp) rfl
set_option maxRecDepth 100000 in
theorem x_Lw_law_414 {sc : Int × (Int → Int)} {d : Nat} {l0 l1 l3 : om_V} {a : Nat} {st : List om_V} {h : om_H} {Q : Option om_V → om_H → Prop} : om_R sc d 0 414 [l0, l1, .inr (.inl a), l3] st h Q = om_R sc d 0 415 [l0, l1, .inr (.inl a), l3] (.inr (.inl a) :: st) h Q := om_q_aload_n rfl rfl
set_option maxRecDepth 100000 in
theorem x_Lw_law_415 {sc : Int × (Int → Int)} {d : Nat} {l1 l2 l3 : om_V} {st : List om_V} {h : om_H} {Q : Option om_V → om_H → Prop} : om_R sc d 0 415 [.inr (.inr 2), l1, l2, l3] st h Q = om_R sc d 0 416 [.inr (.inr 2), l1, l2, l3] (.inr (.inr 2) :: st) h Q := om_q_sload_n rfl rfl
set_option maxRecDepth 100000 in
theorem x_Lw_law_416 {sc : Int × (Int → Int)} {d : Nat} {l0 l1 l2 : om_V} {z : Int} {st : List om_V} {h : om_H} {Q : Option om_V → om_H → Prop} : om_R sc d 0 416 [l0, l1, l2, .inl z] st h Q = om_R sc d 0 417 [l0, l1, l2, .inl z] (.inl z :: st) h Q := om_q_iload_n rfl rfl
set_option maxRecDepth 100000 in
theorem x_Lw_law_417 {sc : Int × (Int → Int)} {d : Nat} {L st : List om_V} {h : om_H} {Q : Option om_V → om_H → Prop} : om_R sc d 0 417 L st h Q = om_R sc d 0 418 L (.inl 1 :: st) h Q := om_q_iconst rfl (by decide)
set_option maxRecDepth 100000 in
theorem x_Lw_law_418 {sc : Int × (Int → Int)} {d : Nat} {x y : Int} {L st : List om_V} {h : om_H} {Q : Option om_V → om_H → Prop} : om_R sc d 0 418 L (.inl y :: .inl x :: st) h Q = (om_Z (x + y) ∧ om_R sc d 0 419 L (.inl (x + y) :: st) h Q) := om_q_iadd rfl
set_option maxRecDepth 100000 in
theorem x_Lw_law_419 {sc : Int × (Int → Int)} {d : Nat} {z : Int} {L st : List om_V} {h : om_H} {Q : Option om_V → om_H → Prop} : om_R sc d 0 419 L (.inl z :: .inr (.inr 2) :: st) h Q = ((0 ≤ z ∧ z < sc.1) ∧ om_R sc d 0 420 L (.inl (sc.2 z) :: st) h Q) := om_q_sald rfl
set_option maxRecDepth 100000 in
theorem x_Lw_law_420 {sc : Int × (Int → Int)} {d : Nat} {l1 l2 l3 : om_V} {st : List om_V} {h : om_H} {Q : Option om_V → om_H → Prop} : om_R sc d 0 420 [.inr (.inr 2), l1, l2, l3] st h Q = om_R sc d 0 421 [.inr (.inr 2), l1, l2, l3] (.inr (.inr 2) :: st) h Q := om_q_sload_n rfl rfl
set_option maxRecDepth 100000 in
theorem x_Lw_law_421 {sc : Int × (Int → Int)} {d : Nat} {l0 l1 l2 : om_V} {z : Int} {st : List om_V} {h : om_H} {Q : Option om_V → om_H → Prop} : om_R sc d 0 421 [l0, l1, l2, .inl z] st h Q = om_R sc d 0 422 [l0, l1, l2, .inl z] (.inl z :: st) h Q := om_q_iload_n rfl rfl
set_option maxRecDepth 100000 in
theorem x_Lw_law_422 {sc : Int × (Int → Int)} {d : Nat} {L st : List om_V} {h : om_H} {Q : Option om_V → om_H → Prop} : om_R sc d 0 422 L st h Q = om_R sc d 0 423 L (.inl 2 :: st) h Q := om_q_iconst rfl (by decide)
set_option maxRecDepth 100000 in
theorem x_Lw_law_423 {sc : Int × (Int → Int)} {d : Nat} {x y : Int} {L st : List om_V} {h : om_H} {Q : Option om_V → om_H → Prop} : om_R sc d 0 423 L (.inl y :: .inl x :: st) h Q = (om_Z (x + y) ∧ om_R sc d 0 424 L (.inl (x + y) :: st) h Q) := om_q_iadd rfl
set_option maxRecDepth 100000 in
theorem x_Lw_law_424 {sc : Int × (Int → Int)} {d : Nat} {z : Int} {L st : List om_V} {h : om_H} {Q : Option om_V → om_H → Prop} : om_R sc d 0 424 L (.inl z :: .inr (.inr 2) :: st) h Q = ((0 ≤ z ∧ z < sc.1) ∧ om_R sc d 0 425 L (.inl (sc.2 z) :: st) h Q) := om_q_sald rfl
set_option maxRecDepth 100000 in
theorem x_Lw_law_425 {sc : Int × (Int → Int)} {d : Nat} {l1 l2 l3 : om_V} {st : List om_V} {h : om_H} {Q : Option om_V → om_H → Prop} : om_R sc d 0 425 [.inr (.inr 2), l1, l2, l3] st h Q = om_R sc d 0 426 [.inr (.inr 2), l1, l2, l3] (.inr (.inr 2) :: st) h Q := om_q_sload_n rfl rfl
set_option maxRecDepth 100000 in
theorem x_Lw_law_426 {sc : Int × (Int → Int)} {d : Nat} {l0 l1 l2 : om_V} {z : Int} {st : List om_V} {h : om_H} {Q : Option om_V → om_H → Prop} : om_R sc d 0 426 [l0, l1, l2, .inl z] st h Q = om_R sc d 0 427 [l0, l1, l2, .inl z] (.inl z :: st) h Q := om_q_iload_n rfl rfl
set_option maxRecDepth 100000 in
theorem x_Lw_law_427 {sc : Int × (Int → Int)} {d : Nat} {L st : List om_V} {h : om_H} {Q : Option om_V → om_H → Prop} : om_R sc d 0 427 L st h Q = om_R sc d 0 428 L (.inl 3 :: st) h Q := om_q_iconst rfl (by decide)
set_option maxRecDepth 100000 in
theorem x_Lw_law_428 {sc : Int × (Int → Int)} {d : Nat} {x y : Int} {L st : List om_V} {h : om_H} {Q : Option om_V → om_H → Prop} : om_R sc d 0 428 L (.inl y :: .inl x :: st) h Q = (om_Z (x + y) ∧ om_R sc d 0 429 L (.inl (x + y) :: st) h Q) := om_q_iadd rfl
set_option maxRecDepth 100000 in
theorem x_Lw_law_429 {sc : Int × (Int → Int)} {d : Nat} {z : Int} {L st : List om_V} {h : om_H} {Q : Option om_V → om_H → Prop} : om_R sc d 0 429 L (.inl z :: .inr (.inr 2) :: st) h Q = ((0 ≤ z ∧ z < sc.1) ∧ om_R sc d 0 430 L (.inl (sc.2 z) :: st) h Q) := om_q_sald rfl
set_option maxRecDepth 100000 in
theorem x_Lw_law_430 {sc : Int × (Int → Int)} {d : Nat} {l1 l2 l3 : om_V} {st : List om_V} {h : om_H} {Q : Option om_V → om_H → Prop} : om_R sc d 0 430 [.inr (.inr 2), l1, l2, l3] st h Q = om_R sc d 0 431 [.inr (.inr 2), l1, l2, l3] (.inr (.inr 2) :: st) h Q := om_q_sload_n rfl rfl
set_option maxRecDepth 100000 in
theorem x_Lw_law_431 {sc : Int × (Int → Int)} {d : Nat} {l0 l1 l2 : om_V} {z : Int} {st : List om_V} {h : om_H} {Q : Option om_V → om_H → Prop} : om_R sc d 0 431 [l0, l1, l2, .inl z] st h Q = om_R sc d 0 432 [l0, l1, l2, .inl z] (.inl z :: st) h Q := om_q_iload_n rfl rfl
set_option maxRecDepth 100000 in
theorem x_Lw_law_432 {sc : Int × (Int → Int)} {d : Nat} {L st : List om_V} {h : om_H} {Q : Option om_V → om_H → Prop} : om_R sc d 0 432 L st h Q = om_R sc d 0 433 L (.inl 4 :: st) h Q := om_q_iconst rfl (by decide)
set_option maxRecDepth 100000 in
theorem x_Lw_law_433 {sc : Int × (Int → Int)} {d : Nat} {x y : Int} {L st : List om_V} {h : om_H} {Q : Option om_V → om_H → Prop} : om_R sc d 0 433 L (.inl y :: .inl x :: st) h Q = (om_Z (x + y) ∧ om_R sc d 0 434 L (.inl (x + y) :: st) h Q) := om_q_iadd rfl
set_option maxRecDepth 100000 in
theorem x_Lw_law_434 {sc : Int × (Int → Int)} {d : Nat} {z : Int} {L st : List om_V} {h : om_H} {Q : Option om_V → om_H → Prop} : om_R sc d 0 434 L (.inl z :: .inr (.inr 2) :: st) h Q = ((0 ≤ z ∧ z < sc.1) ∧ om_R sc d 0 435 L (.inl (sc.2 z) :: st) h Q) := om_q_sald rfl
set_option maxRecDepth 100000 in
theorem x_Lw_law_435 {sc : Int × (Int → Int)} {d : Nat} {a : Nat} {x1 x2 x3 x4 : om_V} {L st : List om_V} {O : List (Nat × Nat × List om_V)} {I : Nat → Int → Int} {Q : Option om_V → om_H → Prop} : om_R sc (d + 1) 0 435 L (x4 :: x3 :: x2 :: x1 :: .inr (.inl a) :: st) (O, I) Q = (om_rv O a 9 ∧ st.length ≤ 8 ∧ om_R sc d 135 0 [.inr (.inl a), x1, x2, x3, x4, om_un] [] (O, I) (fun v h' => om_R sc (d + 1) 0 438 L (v.toList ++ st) h' Q)) := om_q_virt (n := 4) rfl rfl rfl rfl (by simp) rfl
set_option maxRecDepth 100000 in
theorem x_Lw_law_438 {sc : Int × (Int → Int)} {d : Nat} {x y : Int} {L st : List om_V} {h : om_H} {Q : Option om_V → om_H → Prop} : om_R sc d 0 438 L (.inl y :: .inl x :: st) h Q = (if x = y then om_R sc d 0 687 L st h Q else om_R sc d 0 441 L st h Q) := om_q_iceq rfl rfl
set_option maxRecDepth 100000 in
theorem x_Lw_law_441 {sc : Int × (Int → Int)} {d : Nat} {L st : List om_V} {h : om_H} {Q : Option om_V → om_H → Prop} : om_R sc d 0 441 L st h Q = om_R sc d 0 442 L (.inl 0 :: st) h Q := om_q_iconst rfl (by decide)
set_option maxRecDepth 100000 in
theorem x_Lw_law_442 {sc : Int × (Int → Int)} {d : Nat} {z : Int} {L : List om_V} {h : om_H} {Q : Option om_V → om_H → Prop} : om_R sc d 0 442 L [.inl z] h Q = ((z = 0 ∨ z = 1) ∧ Q (some (.inl z)) h) := om_q_zret rfl rfl
set_option maxRecDepth 100000 in
theorem x_Lw_law_443 {sc : Int × (Int → Int)} {d : Nat} {l0 l2 l3 : om_V} {a : Nat} {st : List om_V} {h : om_H} {Q : Option om_V → om_H → Prop} : om_R sc d 0 443 [l0, .inr (.inl a), l2, l3] st h Q = om_R sc d 0 444 [l0, .inr (.inl a), l2, l3] (.inr (.inl a) :: st) h Q := om_q_aload_n rfl rfl
set_option maxRecDepth 100000 in
theorem x_Lw_law_444 {sc : Int × (Int → Int)} {d : Nat} {l1 l2 l3 : om_V} {st : List om_V} {h : om_H} {Q : Option om_V → om_H → Prop} : om_R sc d 0 444 [.inr (.inr 2), l1, l2, l3] st h Q = om_R sc d 0 445 [.inr (.inr 2), l1, l2, l3] (.inr (.inr 2) :: st) h Q := om_q_sload_n rfl rfl
set_option maxRecDepth 100000 in
theorem x_Lw_law_445 {sc : Int × (Int → Int)} {d : Nat} {l0 l1 l2 : om_V} {z : Int} {st : List om_V} {h : om_H} {Q : Option om_V → om_H → Prop} : om_R sc d 0 445 [l0, l1, l2, .inl z] st h Q = om_R sc d 0 446 [l0, l1, l2, .inl z] (.inl z :: st) h Q := om_q_iload_n rfl rfl
set_option maxRecDepth 100000 in
theorem x_Lw_law_446 {sc : Int × (Int → Int)} {d : Nat} {L st : List om_V} {h : om_H} {Q : Option om_V → om_H → Prop} : om_R sc d 0 446 L st h Q = om_R sc d 0 447 L (.inl 1 :: st) h Q := om_q_iconst rfl (by decide)
set_option maxRecDepth 100000 in
theorem x_Lw_law_447 {sc : Int × (Int → Int)} {d : Nat} {x y : Int} {L st : List om_V} {h : om_H} {Q : Option om_V → om_H → Prop} : om_R sc d 0 447 L (.inl y :: .inl x :: st) h Q = (om_Z (x + y) ∧ om_R sc d 0 448 L (.inl (x + y) :: st) h Q) := om_q_iadd rfl
set_option maxRecDepth 100000 in
theorem x_Lw_law_448 {sc : Int × (Int → Int)} {d : Nat} {z : Int} {L st : List om_V} {h : om_H} {Q : Option om_V → om_H → Prop} : om_R sc d 0 448 L (.inl z :: .inr (.inr 2) :: st) h Q = ((0 ≤ z ∧ z < sc.1) ∧ om_R sc d 0 449 L (.inl (sc.2 z) :: st) h Q) := om_q_sald rfl
set_option maxRecDepth 100000 in
theorem x_Lw_law_449 {sc : Int × (Int → Int)} {d : Nat} {l1 l2 l3 : om_V} {st : List om_V} {h : om_H} {Q : Option om_V → om_H → Prop} : om_R sc d 0 449 [.inr (.inr 2), l1, l2, l3] st h Q = om_R sc d 0 450 [.inr (.inr 2), l1, l2, l3] (.inr (.inr 2) :: st) h Q := om_q_sload_n rfl rfl
set_option maxRecDepth 100000 in
theorem x_Lw_law_450 {sc : Int × (Int → Int)} {d : Nat} {l0 l1 l2 : om_V} {z : Int} {st : List om_V} {h : om_H} {Q : Option om_V → om_H → Prop} : om_R sc d 0 450 [l0, l1, l2, .inl z] st h Q = om_R sc d 0 451 [l0, l1, l2, .inl z] (.inl z :: st) h Q := om_q_iload_n rfl rfl
set_option maxRecDepth 100000 in
theorem x_Lw_law_451 {sc : Int × (Int → Int)} {d : Nat} {L st : List om_V} {h : om_H} {Q : Option om_V → om_H → Prop} : om_R sc d 0 451 L st h Q = om_R sc d 0 452 L (.inl 2 :: st) h Q := om_q_iconst rfl (by decide)
set_option maxRecDepth 100000 in
theorem x_Lw_law_452 {sc : Int × (Int → Int)} {d : Nat} {x y : Int} {L st : List om_V} {h : om_H} {Q : Option om_V → om_H → Prop} : om_R sc d 0 452 L (.inl y :: .inl x :: st) h Q = (om_Z (x + y) ∧ om_R sc d 0 453 L (.inl (x + y) :: st) h Q) := om_q_iadd rfl
set_option maxRecDepth 100000 in
theorem x_Lw_law_453 {sc : Int × (Int → Int)} {d : Nat} {z : Int} {L st : List om_V} {h : om_H} {Q : Option om_V → om_H → Prop} : om_R sc d 0 453 L (.inl z :: .inr (.inr 2) :: st) h Q = ((0 ≤ z ∧ z < sc.1) ∧ om_R sc d 0 454 L (.inl (sc.2 z) :: st) h Q) := om_q_sald rfl
set_option maxRecDepth 100000 in
theorem x_Lw_law_454 {sc : Int × (Int → Int)} {d : Nat} {l1 l2 l3 : om_V} {st : List om_V} {h : om_H} {Q : Option om_V → om_H → Prop} : om_R sc d 0 454 [.inr (.inr 2), l1, l2, l3] st h Q = om_R sc d 0 455 [.inr (.inr 2), l1, l2, l3] (.inr (.inr 2) :: st) h Q := om_q_sload_n rfl rfl
set_option maxRecDepth 100000 in
theorem x_Lw_law_455 {sc : Int × (Int → Int)} {d : Nat} {l0 l1 l2 : om_V} {z : Int} {st : List om_V} {h : om_H} {Q : Option om_V → om_H → Prop} : om_R sc d 0 455 [l0, l1, l2, .inl z] st h Q = om_R sc d 0 456 [l0, l1, l2, .inl z] (.inl z :: st) h Q := om_q_iload_n rfl rfl
set_option maxRecDepth 100000 in
theorem x_Lw_law_456 {sc : Int × (Int → Int)} {d : Nat} {L st : List om_V} {h : om_H} {Q : Option om_V → om_H → Prop} : om_R sc d 0 456 L st h Q = om_R sc d 0 457 L (.inl 3 :: st) h Q := om_q_iconst rfl (by decide)
set_option maxRecDepth 100000 in
theorem x_Lw_law_457 {sc : Int × (Int → Int)} {d : Nat} {x y : Int} {L st : List om_V} {h : om_H} {Q : Option om_V → om_H → Prop} : om_R sc d 0 457 L (.inl y :: .inl x :: st) h Q = (om_Z (x + y) ∧ om_R sc d 0 458 L (.inl (x + y) :: st) h Q) := om_q_iadd rfl
set_option maxRecDepth 100000 in
theorem x_Lw_law_458 {sc : Int × (Int → Int)} {d : Nat} {z : Int} {L st : List om_V} {h : om_H} {Q : Option om_V → om_H → Prop} : om_R sc d 0 458 L (.inl z :: .inr (.inr 2) :: st) h Q = ((0 ≤ z ∧ z < sc.1) ∧ om_R sc d 0 459 L (.inl (sc.2 z) :: st) h Q) := om_q_sald rfl
set_option maxRecDepth 100000 in
theorem x_Lw_law_459 {sc : Int × (Int → Int)} {d : Nat} {a : Nat} {x1 x2 x3 : om_V} {L st : List om_V} {O : List (Nat × Nat × List om_V)} {I : Nat → Int → Int} {Q : Option om_V → om_H → Prop} : om_R sc (d + 1) 0 459 L (x3 :: x2 :: x1 :: .inr (.inl a) :: st) (O, I) Q = (om_rv O a 8 ∧ st.length ≤ 8 ∧ om_R sc d 62 0 [.inr (.inl a), x1, x2, x3, om_un, om_un] [] (O, I) (fun v h' => om_R sc (d + 1) 0 462 L (v.toList ++ st) h' Q)) := om_q_virt (n := 3) rfl rfl rfl rfl (by simp) rfl
set_option maxRecDepth 100000 in
theorem x_Lw_law_462 {sc : Int × (Int → Int)} {d : Nat} {l0 l1 l3 : om_V} {a : Nat} {st : List om_V} {h : om_H} {Q : Option om_V → om_H → Prop} : om_R sc d 0 462 [l0, l1, .inr (.inl a), l3] st h Q = om_R sc d 0 463 [l0, l1, .inr (.inl a), l3] (.inr (.inl a) :: st) h Q := om_q_aload_n rfl rfl
set_option maxRecDepth 100000 in
theorem x_Lw_law_463 {sc : Int × (Int → Int)} {d : Nat} {l1 l2 l3 : om_V} {st : List om_V} {h : om_H} {Q : Option om_V → om_H → Prop} : om_R sc d 0 463 [.inr (.inr 2), l1, l2, l3] st h Q = om_R sc d 0 464 [.inr (.inr 2), l1, l2, l3] (.inr (.inr 2) :: st) h Q := om_q_sload_n rfl rfl
set_option maxRecDepth 100000 in
theorem x_Lw_law_464 {sc : Int × (Int → Int)} {d : Nat} {l0 l1 l2 : om_V} {z : Int} {st : List om_V} {h : om_H} {Q : Option om_V → om_H → Prop} : om_R sc d 0 464 [l0, l1, l2, .inl z] st h Q = om_R sc d 0 465 [l0, l1, l2, .inl z] (.inl z :: st) h Q := om_q_iload_n rfl rfl
set_option maxRecDepth 100000 in
theorem x_Lw_law_465 {sc : Int × (Int → Int)} {d : Nat} {L st : List om_V} {h : om_H} {Q : Option om_V → om_H → Prop} : om_R sc d 0 465 L st h Q = om_R sc d 0 466 L (.inl 1 :: st) h Q := om_q_iconst rfl (by decide)
set_option maxRecDepth 100000 in
theorem x_Lw_law_466 {sc : Int × (Int → Int)} {d : Nat} {x y : Int} {L st : List om_V} {h : om_H} {Q : Option om_V → om_H → Prop} : om_R sc d 0 466 L (.inl y :: .inl x :: st) h Q = (om_Z (x + y) ∧ om_R sc d 0 467 L (.inl (x + y) :: st) h Q) := om_q_iadd rfl
set_option maxRecDepth 100000 in
theorem x_Lw_law_467 {sc : Int × (Int → Int)} {d : Nat} {z : Int} {L st : List om_V} {h : om_H} {Q : Option om_V → om_H → Prop} : om_R sc d 0 467 L (.inl z :: .inr (.inr 2) :: st) h Q = ((0 ≤ z ∧ z < sc.1) ∧ om_R sc d 0 468 L (.inl (sc.2 z) :: st) h Q) := om_q_sald rfl
set_option maxRecDepth 100000 in
theorem x_Lw_law_468 {sc : Int × (Int → Int)} {d : Nat} {l1 l2 l3 : om_V} {st : List om_V} {h : om_H} {Q : Option om_V → om_H → Prop} : om_R sc d 0 468 [.inr (.inr 2), l1, l2, l3] st h Q = om_R sc d 0 469 [.inr (.inr 2), l1, l2, l3] (.inr (.inr 2) :: st) h Q := om_q_sload_n rfl rfl
set_option maxRecDepth 100000 in
theorem x_Lw_law_469 {sc : Int × (Int → Int)} {d : Nat} {l0 l1 l2 : om_V} {z : Int} {st : List om_V} {h : om_H} {Q : Option om_V → om_H → Prop} : om_R sc d 0 469 [l0, l1, l2, .inl z] st h Q = om_R sc d 0 470 [l0, l1, l2, .inl z] (.inl z :: st) h Q := om_q_iload_n rfl rfl
set_option maxRecDepth 100000 in
theorem x_Lw_law_470 {sc : Int × (Int → Int)} {d : Nat} {L st : List om_V} {h : om_H} {Q : Option om_V → om_H → Prop} : om_R sc d 0 470 L st h Q = om_R sc d 0 471 L (.inl 2 :: st) h Q := om_q_iconst rfl (by decide)
set_option maxRecDepth 100000 in
theorem x_Lw_law_471 {sc : Int × (Int → Int)} {d : Nat} {x y : Int} {L st : List om_V} {h : om_H} {Q : Option om_V → om_H → Prop} : om_R sc d 0 471 L (.inl y :: .inl x :: st) h Q = (om_Z (x + y) ∧ om_R sc d 0 472 L (.inl (x + y) :: st) h Q) := om_q_iadd rfl
set_option maxRecDepth 100000 in
theorem x_Lw_law_472 {sc : Int × (Int → Int)} {d : Nat} {z : Int} {L st : List om_V} {h : om_H} {Q : Option om_V → om_H → Prop} : om_R sc d 0 472 L (.inl z :: .inr (.inr 2) :: st) h Q = ((0 ≤ z ∧ z < sc.1) ∧ om_R sc d 0 473 L (.inl (sc.2 z) :: st) h Q) := om_q_sald rfl
set_option maxRecDepth 100000 in
theorem x_Lw_law_473 {sc : Int × (Int → Int)} {d : Nat} {l1 l2 l3 : om_V} {st : List om_V} {h : om_H} {Q : Option om_V → om_H → Prop} : om_R sc d 0 473 [.inr (.inr 2), l1, l2, l3] st h Q = om_R sc d 0 474 [.inr (.inr 2), l1, l2, l3] (.inr (.inr 2) :: st) h Q := om_q_sload_n rfl rfl
set_option maxRecDepth 100000 in
theorem x_Lw_law_474 {sc : Int × (Int → Int)} {d : Nat} {l0 l1 l2 : om_V} {z : Int} {st : List om_V} {h : om_H} {Q : Option om_V → om_H → Prop} : om_R sc d 0 474 [l0, l1, l2, .inl z] st h Q = om_R sc d 0 475 [l0, l1, l2, .inl z] (.inl z :: st) h Q := om_q_iload_n rfl rfl
set_option maxRecDepth 100000 in
theorem x_Lw_law_475 {sc : Int × (Int → Int)} {d : Nat} {L st : List om_V} {h : om_H} {Q : Option om_V → om_H → Prop} : om_R sc d 0 475 L st h Q = om_R sc d 0 476 L (.inl 3 :: st) h Q := om_q_iconst rfl (by decide)
set_option maxRecDepth 100000 in
theorem x_Lw_law_476 {sc : Int × (Int → Int)} {d : Nat} {x y : Int} {L st : List om_V} {h : om_H} {Q : Option om_V → om_H → Prop} : om_R sc d 0 476 L (.inl y :: .inl x :: st) h Q = (om_Z (x + y) ∧ om_R sc d 0 477 L (.inl (x + y) :: st) h Q) := om_q_iadd rfl
set_option maxRecDepth 100000 in
theorem x_Lw_law_477 {sc : Int × (Int → Int)} {d : Nat} {z : Int} {L st : List om_V} {h : om_H} {Q : Option om_V → om_H → Prop} : om_R sc d 0 477 L (.inl z :: .inr (.inr 2) :: st) h Q = ((0 ≤ z ∧ z < sc.1) ∧ om_R sc d 0 478 L (.inl (sc.2 z) :: st) h Q) := om_q_sald rfl
set_option maxRecDepth 100000 in
theorem x_Lw_law_478 {sc : Int × (Int → Int)} {d : Nat} {a : Nat} {x1 x2 x3 : om_V} {L st : List om_V} {O : List (Nat × Nat × List om_V)} {I : Nat → Int → Int} {Q : Option om_V → om_H → Prop} : om_R sc (d + 1) 0 478 L (x3 :: x2 :: x1 :: .inr (.inl a) :: st) (O, I) Q = (om_rv O a 9 ∧ st.length ≤ 8 ∧ om_R sc d 138 0 [.inr (.inl a), x1, x2, x3, om_un, om_un, om_un] [] (O, I) (fun v h' => om_R sc (d + 1) 0 481 L (v.toList ++ st) h' Q)) := om_q_virt (n := 3) rfl rfl rfl rfl (by simp) rfl
set_option maxRecDepth 100000 in
theorem x_Lw_law_481 {sc : Int × (Int → Int)} {d : Nat} {x y : Int} {L st : List om_V} {h : om_H} {Q : Option om_V → om_H → Prop} : om_R sc d 0 481 L (.inl y :: .inl x :: st) h Q = (if x = y then om_R sc d 0 687 L st h Q else om_R sc d 0 484 L st h Q) := om_q_iceq rfl rfl
set_option maxRecDepth 100000 in
theorem x_Lw_law_484 {sc : Int × (Int → Int)} {d : Nat} {L st : List om_V} {h : om_H} {Q : Option om_V → om_H → Prop} : om_R sc d 0 484 L st h Q = om_R sc d 0 485 L (.inl 0 :: st) h Q := om_q_iconst rfl (by decide)
set_option maxRecDepth 100000 in
theorem x_Lw_law_485 {sc : Int × (Int → Int)} {d : Nat} {z : Int} {L : List om_V} {h : om_H} {Q : Option om_V → om_H → Prop} : om_R sc d 0 485 L [.inl z] h Q = ((z = 0 ∨ z = 1) ∧ Q (some (.inl z)) h) := om_q_zret rfl rfl
set_option maxRecDepth 100000 in
theorem x_Lw_law_486 {sc : Int × (Int → Int)} {d : Nat} {l0 l2 l3 : om_V} {a : Nat} {st : List om_V} {h : om_H} {Q : Option om_V → om_H → Prop} : om_R sc d 0 486 [l0, .inr (.inl a), l2, l3] st h Q = om_R sc d 0 487 [l0, .inr (.inl a), l2, l3] (.inr (.inl a) :: st) h Q := om_q_aload_n rfl rfl
set_option maxRecDepth 100000 in
theorem x_Lw_law_487 {sc : Int × (Int → Int)} {d : Nat} {l1 l2 l3 : om_V} {st : List om_V} {h : om_H} {Q : Option om_V → om_H → Prop} : om_R sc d 0 487 [.inr (.inr 2), l1, l2, l3] st h Q = om_R sc d 0 488 [.inr (.inr 2), l1, l2, l3] (.inr (.inr 2) :: st) h Q := om_q_sload_n rfl rfl
set_option maxRecDepth 100000 in
theorem x_Lw_law_488 {sc : Int × (Int → Int)} {d : Nat} {l0 l1 l2 : om_V} {z : Int} {st : List om_V} {h : om_H} {Q : Option om_V → om_H → Prop} : om_R sc d 0 488 [l0, l1, l2, .inl z] st h Q = om_R sc d 0 489 [l0, l1, l2, .inl z] (.inl z :: st) h Q := om_q_iload_n rfl rfl
set_option maxRecDepth 100000 in
theorem x_Lw_law_489 {sc : Int × (Int → Int)} {d : Nat} {L st : List om_V} {h : om_H} {Q : Option om_V → om_H → Prop} : om_R sc d 0 489 L st h Q = om_R sc d 0 490 L (.inl 1 :: st) h Q := om_q_iconst rfl (by decide)
set_option maxRecDepth 100000 in
theorem x_Lw_law_490 {sc : Int × (Int → Int)} {d : Nat} {x y : Int} {L st : List om_V} {h : om_H} {Q : Option om_V → om_H → Prop} : om_R sc d 0 490 L (.inl y :: .inl x :: st) h Q = (om_Z (x + y) ∧ om_R sc d 0 491 L (.inl (x + y) :: st) h Q) := om_q_iadd rfl
set_option maxRecDepth 100000 in
theorem x_Lw_law_491 {sc : Int × (Int → Int)} {d : Nat} {z : Int} {L st : List om_V} {h : om_H} {Q : Option om_V → om_H → Prop} : om_R sc d 0 491 L (.inl z :: .inr (.inr 2) :: st) h Q = ((0 ≤ z ∧ z < sc.1) ∧ om_R sc d 0 492 L (.inl (sc.2 z) :: st) h Q) := om_q_sald rfl
set_option maxRecDepth 100000 in
theorem x_Lw_law_492 {sc : Int × (Int → Int)} {d : Nat} {l1 l2 l3 : om_V} {st : List om_V} {h : om_H} {Q : Option om_V → om_H → Prop} : om_R sc d 0 492 [.inr (.inr 2), l1, l2, l3] st h Q = om_R sc d 0 493 [.inr (.inr 2), l1, l2, l3] (.inr (.inr 2) :: st) h Q := om_q_sload_n rfl rfl
set_option maxRecDepth 100000 in
theorem x_Lw_law_493 {sc : Int × (Int → Int)} {d : Nat} {l0 l1 l2 : om_V} {z : Int} {st : List om_V} {h : om_H} {Q : Option om_V → om_H → Prop} : om_R sc d 0 493 [l0, l1, l2, .inl z] st h Q = om_R sc d 0 494 [l0, l1, l2, .inl z] (.inl z :: st) h Q := om_q_iload_n rfl rfl
set_option maxRecDepth 100000 in
theorem x_Lw_law_494 {sc : Int × (Int → Int)} {d : Nat} {L st : List om_V} {h : om_H} {Q : Option om_V → om_H → Prop} : om_R sc d 0 494 L st h Q = om_R sc d 0 495 L (.inl 2 :: st) h Q := om_q_iconst rfl (by decide)
set_option maxRecDepth 100000 in
theorem x_Lw_law_495 {sc : Int × (Int → Int)} {d : Nat} {x y : Int} {L st : List om_V} {h : om_H} {Q : Option om_V → om_H → Prop} : om_R sc d 0 495 L (.inl y :: .inl x :: st) h Q = (om_Z (x + y) ∧ om_R sc d 0 496 L (.inl (x + y) :: st) h Q) := om_q_iadd rfl
set_option maxRecDepth 100000 in
theorem x_Lw_law_496 {sc : Int × (Int → Int)} {d : Nat} {z : Int} {L st : List om_V} {h : om_H} {Q : Option om_V → om_H → Prop} : om_R sc d 0 496 L (.inl z :: .inr (.inr 2) :: st) h Q = ((0 ≤ z ∧ z < sc.1) ∧ om_R sc d 0 497 L (.inl (sc.2 z) :: st) h Q) := om_q_sald rfl
set_option maxRecDepth 100000 in
theorem x_Lw_law_497 {sc : Int × (Int → Int)} {d : Nat} {l1 l2 l3 : om_V} {st : List om_V} {h : om_H} {Q : Option om_V → om_H → Prop} : om_R sc d 0 497 [.inr (.inr 2), l1, l2, l3] st h Q = om_R sc d 0 498 [.inr (.inr 2), l1, l2, l3] (.inr (.inr 2) :: st) h Q := om_q_sload_n rfl rfl
set_option maxRecDepth 100000 in
theorem x_Lw_law_498 {sc : Int × (Int → Int)} {d : Nat} {l0 l1 l2 : om_V} {z : Int} {st : List om_V} {h : om_H} {Q : Option om_V → om_H → Prop} : om_R sc d 0 498 [l0, l1, l2, .inl z] st h Q = om_R sc d 0 499 [l0, l1, l2, .inl z] (.inl z :: st) h Q := om_q_iload_n rfl rfl
set_option maxRecDepth 100000 in
theorem x_Lw_law_499 {sc : Int × (Int → Int)} {d : Nat} {L st : List om_V} {h : om_H} {Q : Option om_V → om_H → Prop} : om_R sc d 0 499 L st h Q = om_R sc d 0 500 L (.inl 3 :: st) h Q := om_q_iconst rfl (by decide)
set_option maxRecDepth 100000 in
theorem x_Lw_law_500 {sc : Int × (Int → Int)} {d : Nat} {x y : Int} {L st : List om_V} {h : om_H} {Q : Option om_V → om_H → Prop} : om_R sc d 0 500 L (.inl y :: .inl x :: st) h Q = (om_Z (x + y) ∧ om_R sc d 0 501 L (.inl (x + y) :: st) h Q) := om_q_iadd rfl
set_option maxRecDepth 100000 in
theorem x_Lw_law_501 {sc : Int × (Int → Int)} {d : Nat} {z : Int} {L st : List om_V} {h : om_H} {Q : Option om_V → om_H → Prop} : om_R sc d 0 501 L (.inl z :: .inr (.inr 2) :: st) h Q = ((0 ≤ z ∧ z < sc.1) ∧ om_R sc d 0 502 L (.inl (sc.2 z) :: st) h Q) := om_q_sald rfl
set_option maxRecDepth 100000 in
theorem x_Lw_law_502 {sc : Int × (Int → Int)} {d : Nat} {a : Nat} {x1 x2 x3 : om_V} {L st : List om_V} {O : List (Nat × Nat × List om_V)} {I : Nat → Int → Int} {Q : Option om_V → om_H → Prop} : om_R sc (d + 1) 0 502 L (x3 :: x2 :: x1 :: .inr (.inl a) :: st) (O, I) Q = (om_rv O a 8 ∧ st.length ≤ 8 ∧ om_R sc d 68 0 [.inr (.inl a), x1, x2, x3] [] (O, I) (fun v h' => om_R sc (d + 1) 0 505 L (v.toList ++ st) h' Q)) := om_q_virt (n := 3) rfl rfl rfl rfl (by simp) rfl
set_option maxRecDepth 100000 in
theorem x_Lw_law_505 {sc : Int × (Int → Int)} {d : Nat} {l0 l1 l3 : om_V} {a : Nat} {st : List om_V} {h : om_H} {Q : Option om_V → om_H → Prop} : om_R sc d 0 505 [l0, l1, .inr (.inl a), l3] st h Q = om_R sc d 0 506 [l0, l1, .inr (.inl a), l3] (.inr (.inl a) :: st) h Q := om_q_aload_n rfl rfl
set_option maxRecDepth 100000 in
theorem x_Lw_law_506 {sc : Int × (Int → Int)} {d : Nat} {l1 l2 l3 : om_V} {st : List om_V} {h : om_H} {Q : Option om_V → om_H → Prop} : om_R sc d 0 506 [.inr (.inr 2), l1, l2, l3] st h Q = om_R sc d 0 507 [.inr (.inr 2), l1, l2, l3] (.inr (.inr 2) :: st) h Q := om_q_sload_n rfl rfl
set_option maxRecDepth 100000 in
theorem x_Lw_law_507 {sc : Int × (Int → Int)} {d : Nat} {l0 l1 l2 : om_V} {z : Int} {st : List om_V} {h : om_H} {Q : Option om_V → om_H → Prop} : om_R sc d 0 507 [l0, l1, l2, .inl z] st h Q = om_R sc d 0 508 [l0, l1, l2, .inl z] (.inl z :: st) h Q := om_q_iload_n rfl rfl
set_option maxRecDepth 100000 in
theorem x_Lw_law_508 {sc : Int × (Int → Int)} {d : Nat} {L st : List om_V} {h : om_H} {Q : Option om_V → om_H → Prop} : om_R sc d 0 508 L st h Q = om_R sc d 0 509 L (.inl 1 :: st) h Q := om_q_iconst rfl (by decide)
set_option maxRecDepth 100000 in
theorem x_Lw_law_509 {sc : Int × (Int → Int)} {d : Nat} {x y : Int} {L st : List om_V} {h : om_H} {Q : Option om_V → om_H → Prop} : om_R sc d 0 509 L (.inl y :: .inl x :: st) h Q = (om_Z (x + y) ∧ om_R sc d 0 510 L (.inl (x + y) :: st) h Q) := om_q_iadd rfl
set_option maxRecDepth 100000 in
theorem x_Lw_law_510 {sc : Int × (Int → Int)} {d : Nat} {z : Int} {L st : List om_V} {h : om_H} {Q : Option om_V → om_H → Prop} : om_R sc d 0 510 L (.inl z :: .inr (.inr 2) :: st) h Q = ((0 ≤ z ∧ z < sc.1) ∧ om_R sc d 0 511 L (.inl (sc.2 z) :: st) h Q) := om_q_sald rfl
set_option maxRecDepth 100000 in
theorem x_Lw_law_511 {sc : Int × (Int → Int)} {d : Nat} {l1 l2 l3 : om_V} {st : List om_V} {h : om_H} {Q : Option om_V → om_H → Prop} : om_R sc d 0 511 [.inr (.inr 2), l1, l2, l3] st h Q = om_R sc d 0 512 [.inr (.inr 2), l1, l2, l3] (.inr (.inr 2) :: st) h Q := om_q_sload_n rfl rfl
set_option maxRecDepth 100000 in
theorem x_Lw_law_512 {sc : Int × (Int → Int)} {d : Nat} {l0 l1 l2 : om_V} {z : Int} {st : List om_V} {h : om_H} {Q : Option om_V → om_H → Prop} : om_R sc d 0 512 [l0, l1, l2, .inl z] st h Q = om_R sc d 0 513 [l0, l1, l2, .inl z] (.inl z :: st) h Q := om_q_iload_n rfl rfl
set_option maxRecDepth 100000 in
theorem x_Lw_law_513 {sc : Int × (Int → Int)} {d : Nat} {L st : List om_V} {h : om_H} {Q : Option om_V → om_H → Prop} : om_R sc d 0 513 L st h Q = om_R sc d 0 514 L (.inl 2 :: st) h Q := om_q_iconst rfl (by decide)
set_option maxRecDepth 100000 in
theorem x_Lw_law_514 {sc : Int × (Int → Int)} {d : Nat} {x y : Int} {L st : List om_V} {h : om_H} {Q : Option om_V → om_H → Prop} : om_R sc d 0 514 L (.inl y :: .inl x :: st) h Q = (om_Z (x + y) ∧ om_R sc d 0 515 L (.inl (x + y) :: st) h Q) := om_q_iadd rfl
set_option maxRecDepth 100000 in
theorem x_Lw_law_515 {sc : Int × (Int → Int)} {d : Nat} {z : Int} {L st : List om_V} {h : om_H} {Q : Option om_V → om_H → Prop} : om_R sc d 0 515 L (.inl z :: .inr (.inr 2) :: st) h Q = ((0 ≤ z ∧ z < sc.1) ∧ om_R sc d 0 516 L (.inl (sc.2 z) :: st) h Q) := om_q_sald rfl
set_option maxRecDepth 100000 in
theorem x_Lw_law_516 {sc : Int × (Int → Int)} {d : Nat} {l1 l2 l3 : om_V} {st : List om_V} {h : om_H} {Q : Option om_V → om_H → Prop} : om_R sc d 0 516 [.inr (.inr 2), l1, l2, l3] st h Q = om_R sc d 0 517 [.inr (.inr 2), l1, l2, l3] (.inr (.inr 2) :: st) h Q := om_q_sload_n rfl rfl
set_option maxRecDepth 100000 in
theorem x_Lw_law_517 {sc : Int × (Int → Int)} {d : Nat} {l0 l1 l2 : om_V} {z : Int} {st : List om_V} {h : om_H} {Q : Option om_V → om_H → Prop} : om_R sc d 0 517 [l0, l1, l2, .inl z] st h Q = om_R sc d 0 518 [l0, l1, l2, .inl z] (.inl z :: st) h Q := om_q_iload_n rfl rfl
set_option maxRecDepth 100000 in
theorem x_Lw_law_518 {sc : Int × (Int → Int)} {d : Nat} {L st : List om_V} {h : om_H} {Q : Option om_V → om_H → Prop} : om_R sc d 0 518 L st h Q = om_R sc d 0 519 L (.inl 3 :: st) h Q := om_q_iconst rfl (by decide)
set_option maxRecDepth 100000 in
theorem x_Lw_law_519 {sc : Int × (Int → Int)} {d : Nat} {x y : Int} {L st : List om_V} {h : om_H} {Q : Option om_V → om_H → Prop} : om_R sc d 0 519 L (.inl y :: .inl x :: st) h Q = (om_Z (x + y) ∧ om_R sc d 0 520 L (.inl (x + y) :: st) h Q) := om_q_iadd rfl
set_option maxRecDepth 100000 in
theorem x_Lw_law_520 {sc : Int × (Int → Int)} {d : Nat} {z : Int} {L st : List om_V} {h : om_H} {Q : Option om_V → om_H → Prop} : om_R sc d 0 520 L (.inl z :: .inr (.inr 2) :: st) h Q = ((0 ≤ z ∧ z < sc.1) ∧ om_R sc d 0 521 L (.inl (sc.2 z) :: st) h Q) := om_q_sald rfl
set_option maxRecDepth 100000 in
theorem x_Lw_law_521 {sc : Int × (Int → Int)} {d : Nat} {a : Nat} {x1 x2 x3 : om_V} {L st : List om_V} {O : List (Nat × Nat × List om_V)} {I : Nat → Int → Int} {Q : Option om_V → om_H → Prop} : om_R sc (d + 1) 0 521 L (x3 :: x2 :: x1 :: .inr (.inl a) :: st) (O, I) Q = (om_rv O a 9 ∧ st.length ≤ 8 ∧ om_R sc d 142 0 [.inr (.inl a), x1, x2, x3, om_un, om_un] [] (O, I) (fun v h' => om_R sc (d + 1) 0 524 L (v.toList ++ st) h' Q)) := om_q_virt (n := 3) rfl rfl rfl rfl (by simp) rfl
set_option maxRecDepth 100000 in
theorem x_Lw_law_524 {sc : Int × (Int → Int)} {d : Nat} {x y : Int} {L st : List om_V} {h : om_H} {Q : Option om_V → om_H → Prop} : om_R sc d 0 524 L (.inl y :: .inl x :: st) h Q = (if x = y then om_R sc d 0 687 L st h Q else om_R sc d 0 527 L st h Q) := om_q_iceq rfl rfl
set_option maxRecDepth 100000 in
theorem x_Lw_law_527 {sc : Int × (Int → Int)} {d : Nat} {L st : List om_V} {h : om_H} {Q : Option om_V → om_H → Prop} : om_R sc d 0 527 L st h Q = om_R sc d 0 528 L (.inl 0 :: st) h Q := om_q_iconst rfl (by decide)
set_option maxRecDepth 100000 in
theorem x_Lw_law_528 {sc : Int × (Int → Int)} {d : Nat} {z : Int} {L : List om_V} {h : om_H} {Q : Option om_V → om_H → Prop} : om_R sc d 0 528 L [.inl z] h Q = ((z = 0 ∨ z = 1) ∧ Q (some (.inl z)) h) := om_q_zret rfl rfl
set_option maxRecDepth 100000 in
theorem x_Lw_law_529 {sc : Int × (Int → Int)} {d : Nat} {l0 l2 l3 : om_V} {a : Nat} {st : List om_V} {h : om_H} {Q : Option om_V → om_H → Prop} : om_R sc d 0 529 [l0, .inr (.inl a), l2, l3] st h Q = om_R sc d 0 530 [l0, .inr (.inl a), l2, l3] (.inr (.inl a) :: st) h Q := om_q_aload_n rfl rfl
set_option maxRecDepth 100000 in
theorem x_Lw_law_530 {sc : Int × (Int → Int)} {d : Nat} {l1 l2 l3 : om_V} {st : List om_V} {h : om_H} {Q : Option om_V → om_H → Prop} : om_R sc d 0 530 [.inr (.inr 2), l1, l2, l3] st h Q = om_R sc d 0 531 [.inr (.inr 2), l1, l2, l3] (.inr (.inr 2) :: st) h Q := om_q_sload_n rfl rfl
set_option maxRecDepth 100000 in
theorem x_Lw_law_531 {sc : Int × (Int → Int)} {d : Nat} {l0 l1 l2 : om_V} {z : Int} {st : List om_V} {h : om_H} {Q : Option om_V → om_H → Prop} : om_R sc d 0 531 [l0, l1, l2, .inl z] st h Q = om_R sc d 0 532 [l0, l1, l2, .inl z] (.inl z :: st) h Q := om_q_iload_n rfl rfl
set_option maxRecDepth 100000 in
theorem x_Lw_law_532 {sc : Int × (Int → Int)} {d : Nat} {L st : List om_V} {h : om_H} {Q : Option om_V → om_H → Prop} : om_R sc d 0 532 L st h Q = om_R sc d 0 533 L (.inl 1 :: st) h Q := om_q_iconst rfl (by decide)
set_option maxRecDepth 100000 in
theorem x_Lw_law_533 {sc : Int × (Int → Int)} {d : Nat} {x y : Int} {L st : List om_V} {h : om_H} {Q : Option om_V → om_H → Prop} : om_R sc d 0 533 L (.inl y :: .inl x :: st) h Q = (om_Z (x + y) ∧ om_R sc d 0 534 L (.inl (x + y) :: st) h Q) := om_q_iadd rfl
set_option maxRecDepth 100000 in
theorem x_Lw_law_534 {sc : Int × (Int → Int)} {d : Nat} {z : Int} {L st : List om_V} {h : om_H} {Q : Option om_V → om_H → Prop} : om_R sc d 0 534 L (.inl z :: .inr (.inr 2) :: st) h Q = ((0 ≤ z ∧ z < sc.1) ∧ om_R sc d 0 535 L (.inl (sc.2 z) :: st) h Q) := om_q_sald rfl
set_option maxRecDepth 100000 in
theorem x_Lw_law_535 {sc : Int × (Int → Int)} {d : Nat} {l1 l2 l3 : om_V} {st : List om_V} {h : om_H} {Q : Option om_V → om_H → Prop} : om_R sc d 0 535 [.inr (.inr 2), l1, l2, l3] st h Q = om_R sc d 0 536 [.inr (.inr 2), l1, l2, l3] (.inr (.inr 2) :: st) h Q := om_q_sload_n rfl rfl
set_option maxRecDepth 100000 in
theorem x_Lw_law_536 {sc : Int × (Int → Int)} {d : Nat} {l0 l1 l2 : om_V} {z : Int} {st : List om_V} {h : om_H} {Q : Option om_V → om_H → Prop} : om_R sc d 0 536 [l0, l1, l2, .inl z] st h Q = om_R sc d 0 537 [l0, l1, l2, .inl z] (.inl z :: st) h Q := om_q_iload_n rfl rfl
set_option maxRecDepth 100000 in
theorem x_Lw_law_537 {sc : Int × (Int → Int)} {d : Nat} {L st : List om_V} {h : om_H} {Q : Option om_V → om_H → Prop} : om_R sc d 0 537 L st h Q = om_R sc d 0 538 L (.inl 2 :: st) h Q := om_q_iconst rfl (by decide)
set_option maxRecDepth 100000 in
theorem x_Lw_law_538 {sc : Int × (Int → Int)} {d : Nat} {x y : Int} {L st : List om_V} {h : om_H} {Q : Option om_V → om_H → Prop} : om_R sc d 0 538 L (.inl y :: .inl x :: st) h Q = (om_Z (x + y) ∧ om_R sc d 0 539 L (.inl (x + y) :: st) h Q) := om_q_iadd rfl
set_option maxRecDepth 100000 in
theorem x_Lw_law_539 {sc : Int × (Int → Int)} {d : Nat} {z : Int} {L st : List om_V} {h : om_H} {Q : Option om_V → om_H → Prop} : om_R sc d 0 539 L (.inl z :: .inr (.inr 2) :: st) h Q = ((0 ≤ z ∧ z < sc.1) ∧ om_R sc d 0 540 L (.inl (sc.2 z) :: st) h Q) := om_q_sald rfl
set_option maxRecDepth 100000 in
theorem x_Lw_law_540 {sc : Int × (Int → Int)} {d : Nat} {a : Nat} {x1 x2 : om_V} {L st : List om_V} {O : List (Nat × Nat × List om_V)} {I : Nat → Int → Int} {Q : Option om_V → om_H → Prop} : om_R sc (d + 1) 0 540 L (x2 :: x1 :: .inr (.inl a) :: st) (O, I) Q = (om_rv O a 8 ∧ st.length ≤ 8 ∧ om_R sc d 77 0 [.inr (.inl a), x1, x2] [] (O, I) (fun v h' => om_R sc (d + 1) 0 543 L (v.toList ++ st) h' Q)) := om_q_virt (n := 2) rfl rfl rfl rfl (by simp) rfl
set_option maxRecDepth 100000 in
theorem x_Lw_law_543 {sc : Int × (Int → Int)} {d : Nat} {l0 l1 l3 : om_V} {a : Nat} {st : List om_V} {h : om_H} {Q : Option om_V → om_H → Prop} : om_R sc d 0 543 [l0, l1, .inr (.inl a), l3] st h Q = om_R sc d 0 544 [l0, l1, .inr (.inl a), l3] (.inr (.inl a) :: st) h Q := om_q_aload_n rfl rfl
set_option maxRecDepth 100000 in
theorem x_Lw_law_544 {sc : Int × (Int → Int)} {d : Nat} {l1 l2 l3 : om_V} {st : List om_V} {h : om_H} {Q : Option om_V → om_H → Prop} : om_R sc d 0 544 [.inr (.inr 2), l1, l2, l3] st h Q = om_R sc d 0 545 [.inr (.inr 2), l1, l2, l3] (.inr (.inr 2) :: st) h Q := om_q_sload_n rfl rfl
set_option maxRecDepth 100000 in
theorem x_Lw_law_545 {sc : Int × (Int → Int)} {d : Nat} {l0 l1 l2 : om_V} {z : Int} {st : List om_V} {h : om_H} {Q : Option om_V → om_H → Prop} : om_R sc d 0 545 [l0, l1, l2, .inl z] st h Q = om_R sc d 0 546 [l0, l1, l2, .inl z] (.inl z :: st) h Q := om_q_iload_n rfl rfl
set_option maxRecDepth 100000 in
theorem x_Lw_law_546 {sc : Int × (Int → Int)} {d : Nat} {L st : List om_V} {h : om_H} {Q : Option om_V → om_H → Prop} : om_R sc d 0 546 L st h Q = om_R sc d 0 547 L (.inl 1 :: st) h Q := om_q_iconst rfl (by decide)
set_option maxRecDepth 100000 in
theorem x_Lw_law_547 {sc : Int × (Int → Int)} {d : Nat} {x y : Int} {L st : List om_V} {h : om_H} {Q : Option om_V → om_H → Prop} : om_R sc d 0 547 L (.inl y :: .inl x :: st) h Q = (om_Z (x + y) ∧ om_R sc d 0 548 L (.inl (x + y) :: st) h Q) := om_q_iadd rfl
set_option maxRecDepth 100000 in
theorem x_Lw_law_548 {sc : Int × (Int → Int)} {d : Nat} {z : Int} {L st : List om_V} {h : om_H} {Q : Option om_V → om_H → Prop} : om_R sc d 0 548 L (.inl z :: .inr (.inr 2) :: st) h Q = ((0 ≤ z ∧ z < sc.1) ∧ om_R sc d 0 549 L (.inl (sc.2 z) :: st) h Q) := om_q_sald rfl
set_option maxRecDepth 100000 in
theorem x_Lw_law_549 {sc : Int × (Int → Int)} {d : Nat} {l1 l2 l3 : om_V} {st : List om_V} {h : om_H} {Q : Option om_V → om_H → Prop} : om_R sc d 0 549 [.inr (.inr 2), l1, l2, l3] st h Q = om_R sc d 0 550 [.inr (.inr 2), l1, l2, l3] (.inr (.inr 2) :: st) h Q := om_q_sload_n rfl rfl
set_option maxRecDepth 100000 in
theorem x_Lw_law_550 {sc : Int × (Int → Int)} {d : Nat} {l0 l1 l2 : om_V} {z : Int} {st : List om_V} {h : om_H} {Q : Option om_V → om_H → Prop} : om_R sc d 0 550 [l0, l1, l2, .inl z] st h Q = om_R sc d 0 551 [l0, l1, l2, .inl z] (.inl z :: st) h Q := om_q_iload_n rfl rfl
set_option maxRecDepth 100000 in
theorem x_Lw_law_551 {sc : Int × (Int → Int)} {d : Nat} {L st : List om_V} {h : om_H} {Q : Option om_V → om_H → Prop} : om_R sc d 0 551 L st h Q = om_R sc d 0 552 L (.inl 2 :: st) h Q := om_q_iconst rfl (by decide)
set_option maxRecDepth 100000 in
theorem x_Lw_law_552 {sc : Int × (Int → Int)} {d : Nat} {x y : Int} {L st : List om_V} {h : om_H} {Q : Option om_V → om_H → Prop} : om_R sc d 0 552 L (.inl y :: .inl x :: st) h Q = (om_Z (x + y) ∧ om_R sc d 0 553 L (.inl (x + y) :: st) h Q) := om_q_iadd rfl
set_option maxRecDepth 100000 in
theorem x_Lw_law_553 {sc : Int × (Int → Int)} {d : Nat} {z : Int} {L st : List om_V} {h : om_H} {Q : Option om_V → om_H → Prop} : om_R sc d 0 553 L (.inl z :: .inr (.inr 2) :: st) h Q = ((0 ≤ z ∧ z < sc.1) ∧ om_R sc d 0 554 L (.inl (sc.2 z) :: st) h Q) := om_q_sald rfl
set_option maxRecDepth 100000 in
theorem x_Lw_law_554 {sc : Int × (Int → Int)} {d : Nat} {a : Nat} {x1 x2 : om_V} {L st : List om_V} {O : List (Nat × Nat × List om_V)} {I : Nat → Int → Int} {Q : Option om_V → om_H → Prop} : om_R sc (d + 1) 0 554 L (x2 :: x1 :: .inr (.inl a) :: st) (O, I) Q = (om_rv O a 9 ∧ st.length ≤ 8 ∧ om_R sc d 149 0 [.inr (.inl a), x1, x2, om_un, om_un, om_un] [] (O, I) (fun v h' => om_R sc (d + 1) 0 557 L (v.toList ++ st) h' Q)) := om_q_virt (n := 2) rfl rfl rfl rfl (by simp) rfl
set_option maxRecDepth 100000 in
theorem x_Lw_law_557 {sc : Int × (Int → Int)} {d : Nat} {x y : Int} {L st : List om_V} {h : om_H} {Q : Option om_V → om_H → Prop} : om_R sc d 0 557 L (.inl y :: .inl x :: st) h Q = (if x = y then om_R sc d 0 687 L st h Q else om_R sc d 0 560 L st h Q) := om_q_iceq rfl rfl
set_option maxRecDepth 100000 in
theorem x_Lw_law_560 {sc : Int × (Int → Int)} {d : Nat} {L st : List om_V} {h : om_H} {Q : Option om_V → om_H → Prop} : om_R sc d 0 560 L st h Q = om_R sc d 0 561 L (.inl 0 :: st) h Q := om_q_iconst rfl (by decide)
set_option maxRecDepth 100000 in
theorem x_Lw_law_561 {sc : Int × (Int → Int)} {d : Nat} {z : Int} {L : List om_V} {h : om_H} {Q : Option om_V → om_H → Prop} : om_R sc d 0 561 L [.inl z] h Q = ((z = 0 ∨ z = 1) ∧ Q (some (.inl z)) h) := om_q_zret rfl rfl
set_option maxRecDepth 100000 in
theorem x_Lw_law_562 {sc : Int × (Int → Int)} {d : Nat} {l0 l2 l3 : om_V} {a : Nat} {st : List om_V} {h : om_H} {Q : Option om_V → om_H → Prop} : om_R sc d 0 562 [l0, .inr (.inl a), l2, l3] st h Q = om_R sc d 0 563 [l0, .inr (.inl a), l2, l3] (.inr (.inl a) :: st) h Q := om_q_aload_n rfl rfl
set_option maxRecDepth 100000 in
theorem x_Lw_law_563 {sc : Int × (Int → Int)} {d : Nat} {l1 l2 l3 : om_V} {st : List om_V} {h : om_H} {Q : Option om_V → om_H → Prop} : om_R sc d 0 563 [.inr (.inr 2), l1, l2, l3] st h Q = om_R sc d 0 564 [.inr (.inr 2), l1, l2, l3] (.inr (.inr 2) :: st) h Q := om_q_sload_n rfl rfl
set_option maxRecDepth 100000 in
theorem x_Lw_law_564 {sc : Int × (Int → Int)} {d : Nat} {l0 l1 l2 : om_V} {z : Int} {st : List om_V} {h : om_H} {Q : Option om_V → om_H → Prop} : om_R sc d 0 564 [l0, l1, l2, .inl z] st h Q = om_R sc d 0 565 [l0, l1, l2, .inl z] (.inl z :: st) h Q := om_q_iload_n rfl rfl
set_option maxRecDepth 100000 in
theorem x_Lw_law_565 {sc : Int × (Int → Int)} {d : Nat} {L st : List om_V} {h : om_H} {Q : Option om_V → om_H → Prop} : om_R sc d 0 565 L st h Q = om_R sc d 0 566 L (.inl 1 :: st) h Q := om_q_iconst rfl (by decide)
set_option maxRecDepth 100000 in
theorem x_Lw_law_566 {sc : Int × (Int → Int)} {d : Nat} {x y : Int} {L st : List om_V} {h : om_H} {Q : Option om_V → om_H → Prop} : om_R sc d 0 566 L (.inl y :: .inl x :: st) h Q = (om_Z (x + y) ∧ om_R sc d 0 567 L (.inl (x + y) :: st) h Q) := om_q_iadd rfl
set_option maxRecDepth 100000 in
theorem x_Lw_law_567 {sc : Int × (Int → Int)} {d : Nat} {z : Int} {L st : List om_V} {h : om_H} {Q : Option om_V → om_H → Prop} : om_R sc d 0 567 L (.inl z :: .inr (.inr 2) :: st) h Q = ((0 ≤ z ∧ z < sc.1) ∧ om_R sc d 0 568 L (.inl (sc.2 z) :: st) h Q) := om_q_sald rfl
set_option maxRecDepth 100000 in
theorem x_Lw_law_568 {sc : Int × (Int → Int)} {d : Nat} {a : Nat} {x1 : om_V} {L st : List om_V} {O : List (Nat × Nat × List om_V)} {I : Nat → Int → Int} {Q : Option om_V → om_H → Prop} : om_R sc (d + 1) 0 568 L (x1 :: .inr (.inl a) :: st) (O, I) Q = (om_rv O a 8 ∧ st.length ≤ 8 ∧ om_R sc d 78 0 [.inr (.inl a), x1] [] (O, I) (fun v h' => om_R sc (d + 1) 0 571 L (v.toList ++ st) h' Q)) := om_q_virt (n := 1) rfl rfl rfl rfl (by simp) rfl
set_option maxRecDepth 100000 in
theorem x_Lw_law_571 {sc : Int × (Int → Int)} {d : Nat} {l0 l1 l3 : om_V} {a : Nat} {st : List om_V} {h : om_H} {Q : Option om_V → om_H → Prop} : om_R sc d 0 571 [l0, l1, .inr (.inl a), l3] st h Q = om_R sc d 0 572 [l0, l1, .inr (.inl a), l3] (.inr (.inl a) :: st) h Q := om_q_aload_n rfl rfl
set_option maxRecDepth 100000 in
theorem x_Lw_law_572 {sc : Int × (Int → Int)} {d : Nat} {l1 l2 l3 : om_V} {st : List om_V} {h : om_H} {Q : Option om_V → om_H → Prop} : om_R sc d 0 572 [.inr (.inr 2), l1, l2, l3] st h Q = om_R sc d 0 573 [.inr (.inr 2), l1, l2, l3] (.inr (.inr 2) :: st) h Q := om_q_sload_n rfl rfl
set_option maxRecDepth 100000 in
theorem x_Lw_law_573 {sc : Int × (Int → Int)} {d : Nat} {l0 l1 l2 : om_V} {z : Int} {st : List om_V} {h : om_H} {Q : Option om_V → om_H → Prop} : om_R sc d 0 573 [l0, l1, l2, .inl z] st h Q = om_R sc d 0 574 [l0, l1, l2, .inl z] (.inl z :: st) h Q := om_q_iload_n rfl rfl
set_option maxRecDepth 100000 in
theorem x_Lw_law_574 {sc : Int × (Int → Int)} {d : Nat} {L st : List om_V} {h : om_H} {Q : Option om_V → om_H → Prop} : om_R sc d 0 574 L st h Q = om_R sc d 0 575 L (.inl 1 :: st) h Q := om_q_iconst rfl (by decide)
set_option maxRecDepth 100000 in
theorem x_Lw_law_575 {sc : Int × (Int → Int)} {d : Nat} {x y : Int} {L st : List om_V} {h : om_H} {Q : Option om_V → om_H → Prop} : om_R sc d 0 575 L (.inl y :: .inl x :: st) h Q = (om_Z (x + y) ∧ om_R sc d 0 576 L (.inl (x + y) :: st) h Q) := om_q_iadd rfl
set_option maxRecDepth 100000 in
theorem x_Lw_law_576 {sc : Int × (Int → Int)} {d : Nat} {z : Int} {L st : List om_V} {h : om_H} {Q : Option om_V → om_H → Prop} : om_R sc d 0 576 L (.inl z :: .inr (.inr 2) :: st) h Q = ((0 ≤ z ∧ z < sc.1) ∧ om_R sc d 0 577 L (.inl (sc.2 z) :: st) h Q) := om_q_sald rfl
set_option maxRecDepth 100000 in
theorem x_Lw_law_577 {sc : Int × (Int → Int)} {d : Nat} {a : Nat} {x1 : om_V} {L st : List om_V} {O : List (Nat × Nat × List om_V)} {I : Nat → Int → Int} {Q : Option om_V → om_H → Prop} : om_R sc (d + 1) 0 577 L (x1 :: .inr (.inl a) :: st) (O, I) Q = (om_rv O a 9 ∧ st.length ≤ 8 ∧ om_R sc d 150 0 [.inr (.inl a), x1, om_un, om_un] [] (O, I) (fun v h' => om_R sc (d + 1) 0 580 L (v.toList ++ st) h' Q)) := om_q_virt (n := 1) rfl rfl rfl rfl (by simp) rfl
set_option maxRecDepth 100000 in
theorem x_Lw_law_580 {sc : Int × (Int → Int)} {d : Nat} {x y : Int} {L st : List om_V} {h : om_H} {Q : Option om_V → om_H → Prop} : om_R sc d 0 580 L (.inl y :: .inl x :: st) h Q = (if x = y then om_R sc d 0 687 L st h Q else om_R sc d 0 583 L st h Q) := om_q_iceq rfl rfl
set_option maxRecDepth 100000 in
theorem x_Lw_law_583 {sc : Int × (Int → Int)} {d : Nat} {L st : List om_V} {h : om_H} {Q : Option om_V → om_H → Prop} : om_R sc d 0 583 L st h Q = om_R sc d 0 584 L (.inl 0 :: st) h Q := om_q_iconst rfl (by decide)
set_option maxRecDepth 100000 in
theorem x_Lw_law_584 {sc : Int × (Int → Int)} {d : Nat} {z : Int} {L : List om_V} {h : om_H} {Q : Option om_V → om_H → Prop} : om_R sc d 0 584 L [.inl z] h Q = ((z = 0 ∨ z = 1) ∧ Q (some (.inl z)) h) := om_q_zret rfl rfl
set_option maxRecDepth 100000 in
theorem x_Lw_law_585 {sc : Int × (Int → Int)} {d : Nat} {l0 l2 l3 : om_V} {a : Nat} {st : List om_V} {h : om_H} {Q : Option om_V → om_H → Prop} : om_R sc d 0 585 [l0, .inr (.inl a), l2, l3] st h Q = om_R sc d 0 586 [l0, .inr (.inl a), l2, l3] (.inr (.inl a) :: st) h Q := om_q_aload_n rfl rfl
set_option maxRecDepth 100000 in
theorem x_Lw_law_586 {sc : Int × (Int → Int)} {d : Nat} {l1 l2 l3 : om_V} {st : List om_V} {h : om_H} {Q : Option om_V → om_H → Prop} : om_R sc d 0 586 [.inr (.inr 2), l1, l2, l3] st h Q = om_R sc d 0 587 [.inr (.inr 2), l1, l2, l3] (.inr (.inr 2) :: st) h Q := om_q_sload_n rfl rfl
set_option maxRecDepth 100000 in
theorem x_Lw_law_587 {sc : Int × (Int → Int)} {d : Nat} {l0 l1 l2 : om_V} {z : Int} {st : List om_V} {h : om_H} {Q : Option om_V → om_H → Prop} : om_R sc d 0 587 [l0, l1, l2, .inl z] st h Q = om_R sc d 0 588 [l0, l1, l2, .inl z] (.inl z :: st) h Q := om_q_iload_n rfl rfl
set_option maxRecDepth 100000 in
theorem x_Lw_law_588 {sc : Int × (Int → Int)} {d : Nat} {L st : List om_V} {h : om_H} {Q : Option om_V → om_H → Prop} : om_R sc d 0 588 L st h Q = om_R sc d 0 589 L (.inl 1 :: st) h Q := om_q_iconst rfl (by decide)
set_option maxRecDepth 100000 in
theorem x_Lw_law_589 {sc : Int × (Int → Int)} {d : Nat} {x y : Int} {L st : List om_V} {h : om_H} {Q : Option om_V → om_H → Prop} : om_R sc d 0 589 L (.inl y :: .inl x :: st) h Q = (om_Z (x + y) ∧ om_R sc d 0 590 L (.inl (x + y) :: st) h Q) := om_q_iadd rfl
set_option maxRecDepth 100000 in
theorem x_Lw_law_590 {sc : Int × (Int → Int)} {d : Nat} {z : Int} {L st : List om_V} {h : om_H} {Q : Option om_V → om_H → Prop} : om_R sc d 0 590 L (.inl z :: .inr (.inr 2) :: st) h Q = ((0 ≤ z ∧ z < sc.1) ∧ om_R sc d 0 591 L (.inl (sc.2 z) :: st) h Q) := om_q_sald rfl
set_option maxRecDepth 100000 in
theorem x_Lw_law_591 {sc : Int × (Int → Int)} {d : Nat} {a : Nat} {x1 : om_V} {L st : List om_V} {O : List (Nat × Nat × List om_V)} {I : Nat → Int → Int} {Q : Option om_V → om_H → Prop} : om_R sc (d + 1) 0 591 L (x1 :: .inr (.inl a) :: st) (O, I) Q = (om_rv O a 8 ∧ st.length ≤ 8 ∧ om_R sc d 84 0 [.inr (.inl a), x1] [] (O, I) (fun v h' => om_R sc (d + 1) 0 594 L (v.toList ++ st) h' Q)) := om_q_virt (n := 1) rfl rfl rfl rfl (by simp) rfl
set_option maxRecDepth 100000 in
theorem x_Lw_law_594 {sc : Int × (Int → Int)} {d : Nat} {l0 l1 l3 : om_V} {a : Nat} {st : List om_V} {h : om_H} {Q : Option om_V → om_H → Prop} : om_R sc d 0 594 [l0, l1, .inr (.inl a), l3] st h Q = om_R sc d 0 595 [l0, l1, .inr (.inl a), l3] (.inr (.inl a) :: st) h Q := om_q_aload_n rfl rfl
set_option maxRecDepth 100000 in
theorem x_Lw_law_595 {sc : Int × (Int → Int)} {d : Nat} {l1 l2 l3 : om_V} {st : List om_V} {h : om_H} {Q : Option om_V → om_H → Prop} : om_R sc d 0 595 [.inr (.inr 2), l1, l2, l3] st h Q = om_R sc d 0 596 [.inr (.inr 2), l1, l2, l3] (.inr (.inr 2) :: st) h Q := om_q_sload_n rfl rfl
set_option maxRecDepth 100000 in
theorem x_Lw_law_596 {sc : Int × (Int → Int)} {d : Nat} {l0 l1 l2 : om_V} {z : Int} {st : List om_V} {h : om_H} {Q : Option om_V → om_H → Prop} : om_R sc d 0 596 [l0, l1, l2, .inl z] st h Q = om_R sc d 0 597 [l0, l1, l2, .inl z] (.inl z :: st) h Q := om_q_iload_n rfl rfl
set_option maxRecDepth 100000 in
theorem x_Lw_law_597 {sc : Int × (Int → Int)} {d : Nat} {L st : List om_V} {h : om_H} {Q : Option om_V → om_H → Prop} : om_R sc d 0 597 L st h Q = om_R sc d 0 598 L (.inl 1 :: st) h Q := om_q_iconst rfl (by decide)
set_option maxRecDepth 100000 in
theorem x_Lw_law_598 {sc : Int × (Int → Int)} {d : Nat} {x y : Int} {L st : List om_V} {h : om_H} {Q : Option om_V → om_H → Prop} : om_R sc d 0 598 L (.inl y :: .inl x :: st) h Q = (om_Z (x + y) ∧ om_R sc d 0 599 L (.inl (x + y) :: st) h Q) := om_q_iadd rfl
set_option maxRecDepth 100000 in
theorem x_Lw_law_599 {sc : Int × (Int → Int)} {d : Nat} {z : Int} {L st : List om_V} {h : om_H} {Q : Option om_V → om_H → Prop} : om_R sc d 0 599 L (.inl z :: .inr (.inr 2) :: st) h Q = ((0 ≤ z ∧ z < sc.1) ∧ om_R sc d 0 600 L (.inl (sc.2 z) :: st) h Q) := om_q_sald rfl
set_option maxRecDepth 100000 in
theorem x_Lw_law_600 {sc : Int × (Int → Int)} {d : Nat} {a : Nat} {x1 : om_V} {L st : List om_V} {O : List (Nat × Nat × List om_V)} {I : Nat → Int → Int} {Q : Option om_V → om_H → Prop} : om_R sc (d + 1) 0 600 L (x1 :: .inr (.inl a) :: st) (O, I) Q = (om_rv O a 9 ∧ st.length ≤ 8 ∧ om_R sc d 153 0 [.inr (.inl a), x1, om_un, om_un] [] (O, I) (fun v h' => om_R sc (d + 1) 0 603 L (v.toList ++ st) h' Q)) := om_q_virt (n := 1) rfl rfl rfl rfl (by simp) rfl
set_option maxRecDepth 100000 in
theorem x_Lw_law_603 {sc : Int × (Int → Int)} {d : Nat} {x y : Int} {L st : List om_V} {h : om_H} {Q : Option om_V → om_H → Prop} : om_R sc d 0 603 L (.inl y :: .inl x :: st) h Q = (if x = y then om_R sc d 0 687 L st h Q else om_R sc d 0 606 L st h Q) := om_q_iceq rfl rfl
set_option maxRecDepth 100000 in
theorem x_Lw_law_606 {sc : Int × (Int → Int)} {d : Nat} {L st : List om_V} {h : om_H} {Q : Option om_V → om_H → Prop} : om_R sc d 0 606 L st h Q = om_R sc d 0 607 L (.inl 0 :: st) h Q := om_q_iconst rfl (by decide)
set_option maxRecDepth 100000 in
theorem x_Lw_law_607 {sc : Int × (Int → Int)} {d : Nat} {z : Int} {L : List om_V} {h : om_H} {Q : Option om_V → om_H → Prop} : om_R sc d 0 607 L [.inl z] h Q = ((z = 0 ∨ z = 1) ∧ Q (some (.inl z)) h) := om_q_zret rfl rfl
set_option maxRecDepth 100000 in
theorem x_Lw_law_608 {sc : Int × (Int → Int)} {d : Nat} {l0 l2 l3 : om_V} {a : Nat} {st : List om_V} {h : om_H} {Q : Option om_V → om_H → Prop} : om_R sc d 0 608 [l0, .inr (.inl a), l2, l3] st h Q = om_R sc d 0 609 [l0, .inr (.inl a), l2, l3] (.inr (.inl a) :: st) h Q := om_q_aload_n rfl rfl
set_option maxRecDepth 100000 in
theorem x_Lw_law_609 {sc : Int × (Int → Int)} {d : Nat} {l1 l2 l3 : om_V} {st : List om_V} {h : om_H} {Q : Option om_V → om_H → Prop} : om_R sc d 0 609 [.inr (.inr 2), l1, l2, l3] st h Q = om_R sc d 0 610 [.inr (.inr 2), l1, l2, l3] (.inr (.inr 2) :: st) h Q := om_q_sload_n rfl rfl
set_option maxRecDepth 100000 in
theorem x_Lw_law_610 {sc : Int × (Int → Int)} {d : Nat} {l0 l1 l2 : om_V} {z : Int} {st : List om_V} {h : om_H} {Q : Option om_V → om_H → Prop} : om_R sc d 0 610 [l0, l1, l2, .inl z] st h Q = om_R sc d 0 611 [l0, l1, l2, .inl z] (.inl z :: st) h Q := om_q_iload_n rfl rfl
set_option maxRecDepth 100000 in
theorem x_Lw_law_611 {sc : Int × (Int → Int)} {d : Nat} {L st : List om_V} {h : om_H} {Q : Option om_V → om_H → Prop} : om_R sc d 0 611 L st h Q = om_R sc d 0 612 L (.inl 1 :: st) h Q := om_q_iconst rfl (by decide)
set_option maxRecDepth 100000 in
theorem x_Lw_law_612 {sc : Int × (Int → Int)} {d : Nat} {x y : Int} {L st : List om_V} {h : om_H} {Q : Option om_V → om_H → Prop} : om_R sc d 0 612 L (.inl y :: .inl x :: st) h Q = (om_Z (x + y) ∧ om_R sc d 0 613 L (.inl (x + y) :: st) h Q) := om_q_iadd rfl
set_option maxRecDepth 100000 in
theorem x_Lw_law_613 {sc : Int × (Int → Int)} {d : Nat} {z : Int} {L st : List om_V} {h : om_H} {Q : Option om_V → om_H → Prop} : om_R sc d 0 613 L (.inl z :: .inr (.inr 2) :: st) h Q = ((0 ≤ z ∧ z < sc.1) ∧ om_R sc d 0 614 L (.inl (sc.2 z) :: st) h Q) := om_q_sald rfl
set_option maxRecDepth 100000 in
theorem x_Lw_law_614 {sc : Int × (Int → Int)} {d : Nat} {l1 l2 l3 : om_V} {st : List om_V} {h : om_H} {Q : Option om_V → om_H → Prop} : om_R sc d 0 614 [.inr (.inr 2), l1, l2, l3] st h Q = om_R sc d 0 615 [.inr (.inr 2), l1, l2, l3] (.inr (.inr 2) :: st) h Q := om_q_sload_n rfl rfl
set_option maxRecDepth 100000 in
theorem x_Lw_law_615 {sc : Int × (Int → Int)} {d : Nat} {l0 l1 l2 : om_V} {z : Int} {st : List om_V} {h : om_H} {Q : Option om_V → om_H → Prop} : om_R sc d 0 615 [l0, l1, l2, .inl z] st h Q = om_R sc d 0 616 [l0, l1, l2, .inl z] (.inl z :: st) h Q := om_q_iload_n rfl rfl
set_option maxRecDepth 100000 in
theorem x_Lw_law_616 {sc : Int × (Int → Int)} {d : Nat} {L st : List om_V} {h : om_H} {Q : Option om_V → om_H → Prop} : om_R sc d 0 616 L st h Q = om_R sc d 0 617 L (.inl 2 :: st) h Q := om_q_iconst rfl (by decide)
set_option maxRecDepth 100000 in
theorem x_Lw_law_617 {sc : Int × (Int → Int)} {d : Nat} {x y : Int} {L st : List om_V} {h : om_H} {Q : Option om_V → om_H → Prop} : om_R sc d 0 617 L (.inl y :: .inl x :: st) h Q = (om_Z (x + y) ∧ om_R sc d 0 618 L (.inl (x + y) :: st) h Q) := om_q_iadd rfl
set_option maxRecDepth 100000 in
theorem x_Lw_law_618 {sc : Int × (Int → Int)} {d : Nat} {z : Int} {L st : List om_V} {h : om_H} {Q : Option om_V → om_H → Prop} : om_R sc d 0 618 L (.inl z :: .inr (.inr 2) :: st) h Q = ((0 ≤ z ∧ z < sc.1) ∧ om_R sc d 0 619 L (.inl (sc.2 z) :: st) h Q) := om_q_sald rfl
set_option maxRecDepth 100000 in
theorem x_Lw_law_619 {sc : Int × (Int → Int)} {d : Nat} {a : Nat} {x1 x2 : om_V} {L st : List om_V} {O : List (Nat × Nat × List om_V)} {I : Nat → Int → Int} {Q : Option om_V → om_H → Prop} : om_R sc (d + 1) 0 619 L (x2 :: x1 :: .inr (.inl a) :: st) (O, I) Q = (om_rv O a 8 ∧ st.length ≤ 8 ∧ om_R sc d 85 0 [.inr (.inl a), x1, x2] [] (O, I) (fun v h' => om_R sc (d + 1) 0 622 L (v.toList ++ st) h' Q)) := om_q_virt (n := 2) rfl rfl rfl rfl (by simp) rfl
set_option maxRecDepth 100000 in
theorem x_Lw_law_622 {sc : Int × (Int → Int)} {d : Nat} {l0 l1 l3 : om_V} {a : Nat} {st : List om_V} {h : om_H} {Q : Option om_V → om_H → Prop} : om_R sc d 0 622 [l0, l1, .inr (.inl a), l3] st h Q = om_R sc d 0 623 [l0, l1, .inr (.inl a), l3] (.inr (.inl a) :: st) h Q := om_q_aload_n rfl rfl
set_option maxRecDepth 100000 in
theorem x_Lw_law_623 {sc : Int × (Int → Int)} {d : Nat} {l1 l2 l3 : om_V} {st : List om_V} {h : om_H} {Q : Option om_V → om_H → Prop} : om_R sc d 0 623 [.inr (.inr 2), l1, l2, l3] st h Q = om_R sc d 0 624 [.inr (.inr 2), l1, l2, l3] (.inr (.inr 2) :: st) h Q := om_q_sload_n rfl rfl
set_option maxRecDepth 100000 in
theorem x_Lw_law_624 {sc : Int × (Int → Int)} {d : Nat} {l0 l1 l2 : om_V} {z : Int} {st : List om_V} {h : om_H} {Q : Option om_V → om_H → Prop} : om_R sc d 0 624 [l0, l1, l2, .inl z] st h Q = om_R sc d 0 625 [l0, l1, l2, .inl z] (.inl z :: st) h Q := om_q_iload_n rfl rfl
set_option maxRecDepth 100000 in
theorem x_Lw_law_625 {sc : Int × (Int → Int)} {d : Nat} {L st : List om_V} {h : om_H} {Q : Option om_V → om_H → Prop} : om_R sc d 0 625 L st h Q = om_R sc d 0 626 L (.inl 1 :: st) h Q := om_q_iconst rfl (by decide)
set_option maxRecDepth 100000 in
theorem x_Lw_law_626 {sc : Int × (Int → Int)} {d : Nat} {x y : Int} {L st : List om_V} {h : om_H} {Q : Option om_V → om_H → Prop} : om_R sc d 0 626 L (.inl y :: .inl x :: st) h Q = (om_Z (x + y) ∧ om_R sc d 0 627 L (.inl (x + y) :: st) h Q) := om_q_iadd rfl
set_option maxRecDepth 100000 in
theorem x_Lw_law_627 {sc : Int × (Int → Int)} {d : Nat} {z : Int} {L st : List om_V} {h : om_H} {Q : Option om_V → om_H → Prop} : om_R sc d 0 627 L (.inl z :: .inr (.inr 2) :: st) h Q = ((0 ≤ z ∧ z < sc.1) ∧ om_R sc d 0 628 L (.inl (sc.2 z) :: st) h Q) := om_q_sald rfl
set_option maxRecDepth 100000 in
theorem x_Lw_law_628 {sc : Int × (Int → Int)} {d : Nat} {l1 l2 l3 : om_V} {st : List om_V} {h : om_H} {Q : Option om_V → om_H → Prop} : om_R sc d 0 628 [.inr (.inr 2), l1, l2, l3] st h Q = om_R sc d 0 629 [.inr (.inr 2), l1, l2, l3] (.inr (.inr 2) :: st) h Q := om_q_sload_n rfl rfl
set_option maxRecDepth 100000 in
theorem x_Lw_law_629 {sc : Int × (Int → Int)} {d : Nat} {l0 l1 l2 : om_V} {z : Int} {st : List om_V} {h : om_H} {Q : Option om_V → om_H → Prop} : om_R sc d 0 629 [l0, l1, l2, .inl z] st h Q = om_R sc d 0 630 [l0, l1, l2, .inl z] (.inl z :: st) h Q := om_q_iload_n rfl rfl
set_option maxRecDepth 100000 in
theorem x_Lw_law_630 {sc : Int × (Int → Int)} {d : Nat} {L st : List om_V} {h : om_H} {Q : Option om_V → om_H → Prop} : om_R sc d 0 630 L st h Q = om_R sc d 0 631 L (.inl 2 :: st) h Q := om_q_iconst rfl (by decide)
set_option maxRecDepth 100000 in
theorem x_Lw_law_631 {sc : Int × (Int → Int)} {d : Nat} {x y : Int} {L st : List om_V} {h : om_H} {Q : Option om_V → om_H → Prop} : om_R sc d 0 631 L (.inl y :: .inl x :: st) h Q = (om_Z (x + y) ∧ om_R sc d 0 632 L (.inl (x + y) :: st) h Q) := om_q_iadd rfl
set_option maxRecDepth 100000 in
theorem x_Lw_law_632 {sc : Int × (Int → Int)} {d : Nat} {z : Int} {L st : List om_V} {h : om_H} {Q : Option om_V → om_H → Prop} : om_R sc d 0 632 L (.inl z :: .inr (.inr 2) :: st) h Q = ((0 ≤ z ∧ z < sc.1) ∧ om_R sc d 0 633 L (.inl (sc.2 z) :: st) h Q) := om_q_sald rfl
set_option maxRecDepth 100000 in
theorem x_Lw_law_633 {sc : Int × (Int → Int)} {d : Nat} {a : Nat} {x1 x2 : om_V} {L st : List om_V} {O : List (Nat × Nat × List om_V)} {I : Nat → Int → Int} {Q : Option om_V → om_H → Prop} : om_R sc (d + 1) 0 633 L (x2 :: x1 :: .inr (.inl a) :: st) (O, I) Q = (om_rv O a 9 ∧ st.length ≤ 8 ∧ om_R sc d 154 0 [.inr (.inl a), x1, x2, om_un, om_un] [] (O, I) (fun v h' => om_R sc (d + 1) 0 636 L (v.toList ++ st) h' Q)) := om_q_virt (n := 2) rfl rfl rfl rfl (by simp) rfl
set_option maxRecDepth 100000 in
theorem x_Lw_law_636 {sc : Int × (Int → Int)} {d : Nat} {x y : Int} {L st : List om_V} {h : om_H} {Q : Option om_V → om_H → Prop} : om_R sc d 0 636 L (.inl y :: .inl x :: st) h Q = (if x = y then om_R sc d 0 687 L st h Q else om_R sc d 0 639 L st h Q) := om_q_iceq rfl rfl
set_option maxRecDepth 100000 in
theorem x_Lw_law_639 {sc : Int × (Int → Int)} {d : Nat} {L st : List om_V} {h : om_H} {Q : Option om_V → om_H → Prop} : om_R sc d 0 639 L st h Q = om_R sc d 0 640 L (.inl 0 :: st) h Q := om_q_iconst rfl (by decide)
set_option maxRecDepth 100000 in
theorem x_Lw_law_640 {sc : Int × (Int → Int)} {d : Nat} {z : Int} {L : List om_V} {h : om_H} {Q : Option om_V → om_H → Prop} : om_R sc d 0 640 L [.inl z] h Q = ((z = 0 ∨ z = 1) ∧ Q (some (.inl z)) h) := om_q_zret rfl rfl
set_option maxRecDepth 100000 in
theorem x_Lw_law_641 {sc : Int × (Int → Int)} {d : Nat} {l0 l2 l3 : om_V} {a : Nat} {st : List om_V} {h : om_H} {Q : Option om_V → om_H → Prop} : om_R sc d 0 641 [l0, .inr (.inl a), l2, l3] st h Q = om_R sc d 0 642 [l0, .inr (.inl a), l2, l3] (.inr (.inl a) :: st) h Q := om_q_aload_n rfl rfl
set_option maxRecDepth 100000 in
theorem x_Lw_law_642 {sc : Int × (Int → Int)} {d : Nat} {l1 l2 l3 : om_V} {st : List om_V} {h : om_H} {Q : Option om_V → om_H → Prop} : om_R sc d 0 642 [.inr (.inr 2), l1, l2, l3] st h Q = om_R sc d 0 643 [.inr (.inr 2), l1, l2, l3] (.inr (.inr 2) :: st) h Q := om_q_sload_n rfl rfl
set_option maxRecDepth 100000 in
theorem x_Lw_law_643 {sc : Int × (Int → Int)} {d : Nat} {l0 l1 l2 : om_V} {z : Int} {st : List om_V} {h : om_H} {Q : Option om_V → om_H → Prop} : om_R sc d 0 643 [l0, l1, l2, .inl z] st h Q = om_R sc d 0 644 [l0, l1, l2, .inl z] (.inl z :: st) h Q := om_q_iload_n rfl rfl
set_option maxRecDepth 100000 in
theorem x_Lw_law_644 {sc : Int × (Int → Int)} {d : Nat} {L st : List om_V} {h : om_H} {Q : Option om_V → om_H → Prop} : om_R sc d 0 644 L st h Q = om_R sc d 0 645 L (.inl 1 :: st) h Q := om_q_iconst rfl (by decide)
set_option maxRecDepth 100000 in
theorem x_Lw_law_645 {sc : Int × (Int → Int)} {d : Nat} {x y : Int} {L st : List om_V} {h : om_H} {Q : Option om_V → om_H → Prop} : om_R sc d 0 645 L (.inl y :: .inl x :: st) h Q = (om_Z (x + y) ∧ om_R sc d 0 646 L (.inl (x + y) :: st) h Q) := om_q_iadd rfl
set_option maxRecDepth 100000 in
theorem x_Lw_law_646 {sc : Int × (Int → Int)} {d : Nat} {z : Int} {L st : List om_V} {h : om_H} {Q : Option om_V → om_H → Prop} : om_R sc d 0 646 L (.inl z :: .inr (.inr 2) :: st) h Q = ((0 ≤ z ∧ z < sc.1) ∧ om_R sc d 0 647 L (.inl (sc.2 z) :: st) h Q) := om_q_sald rfl
set_option maxRecDepth 100000 in
theorem x_Lw_law_647 {sc : Int × (Int → Int)} {d : Nat} {a : Nat} {x1 : om_V} {L st : List om_V} {O : List (Nat × Nat × List om_V)} {I : Nat → Int → Int} {Q : Option om_V → om_H → Prop} : om_R sc (d + 1) 0 647 L (x1 :: .inr (.inl a) :: st) (O, I) Q = (om_rv O a 8 ∧ st.length ≤ 8 ∧ om_R sc d 87 0 [.inr (.inl a), x1] [] (O, I) (fun v h' => om_R sc (d + 1) 0 650 L (v.toList ++ st) h' Q)) := om_q_virt (n := 1) rfl rfl rfl rfl (by simp) rfl
set_option maxRecDepth 100000 in
theorem x_Lw_law_650 {sc : Int × (Int → Int)} {d : Nat} {l0 l1 l3 : om_V} {a : Nat} {st : List om_V} {h : om_H} {Q : Option om_V → om_H → Prop} : om_R sc d 0 650 [l0, l1, .inr (.inl a), l3] st h Q = om_R sc d 0 651 [l0, l1, .inr (.inl a), l3] (.inr (.inl a) :: st) h Q := om_q_aload_n rfl rfl
set_option maxRecDepth 100000 in
theorem x_Lw_law_651 {sc : Int × (Int → Int)} {d : Nat} {l1 l2 l3 : om_V} {st : List om_V} {h : om_H} {Q : Option om_V → om_H → Prop} : om_R sc d 0 651 [.inr (.inr 2), l1, l2, l3] st h Q = om_R sc d 0 652 [.inr (.inr 2), l1, l2, l3] (.inr (.inr 2) :: st) h Q := om_q_sload_n rfl rfl
set_option maxRecDepth 100000 in
theorem x_Lw_law_652 {sc : Int × (Int → Int)} {d : Nat} {l0 l1 l2 : om_V} {z : Int} {st : List om_V} {h : om_H} {Q : Option om_V → om_H → Prop} : om_R sc d 0 652 [l0, l1, l2, .inl z] st h Q = om_R sc d 0 653 [l0, l1, l2, .inl z] (.inl z :: st) h Q := om_q_iload_n rfl rfl
set_option maxRecDepth 100000 in
theorem x_Lw_law_653 {sc : Int × (Int → Int)} {d : Nat} {L st : List om_V} {h : om_H} {Q : Option om_V → om_H → Prop} : om_R sc d 0 653 L st h Q = om_R sc d 0 654 L (.inl 1 :: st) h Q := om_q_iconst rfl (by decide)
set_option maxRecDepth 100000 in
theorem x_Lw_law_654 {sc : Int × (Int → Int)} {d : Nat} {x y : Int} {L st : List om_V} {h : om_H} {Q : Option om_V → om_H → Prop} : om_R sc d 0 654 L (.inl y :: .inl x :: st) h Q = (om_Z (x + y) ∧ om_R sc d 0 655 L (.inl (x + y) :: st) h Q) := om_q_iadd rfl
set_option maxRecDepth 100000 in
theorem x_Lw_law_655 {sc : Int × (Int → Int)} {d : Nat} {z : Int} {L st : List om_V} {h : om_H} {Q : Option om_V → om_H → Prop} : om_R sc d 0 655 L (.inl z :: .inr (.inr 2) :: st) h Q = ((0 ≤ z ∧ z < sc.1) ∧ om_R sc d 0 656 L (.inl (sc.2 z) :: st) h Q) := om_q_sald rfl
set_option maxRecDepth 100000 in
theorem x_Lw_law_656 {sc : Int × (Int → Int)} {d : Nat} {a : Nat} {x1 : om_V} {L st : List om_V} {O : List (Nat × Nat × List om_V)} {I : Nat → Int → Int} {Q : Option om_V → om_H → Prop} : om_R sc (d + 1) 0 656 L (x1 :: .inr (.inl a) :: st) (O, I) Q = (om_rv O a 9 ∧ st.length ≤ 8 ∧ om_R sc d 155 0 [.inr (.inl a), x1, om_un, om_un, om_un] [] (O, I) (fun v h' => om_R sc (d + 1) 0 659 L (v.toList ++ st) h' Q)) := om_q_virt (n := 1) rfl rfl rfl rfl (by simp) rfl
set_option maxRecDepth 100000 in
theorem x_Lw_law_659 {sc : Int × (Int → Int)} {d : Nat} {x y : Int} {L st : List om_V} {h : om_H} {Q : Option om_V → om_H → Prop} : om_R sc d 0 659 L (.inl y :: .inl x :: st) h Q = (if x = y then om_R sc d 0 687 L st h Q else om_R sc d 0 662 L st h Q) := om_q_iceq rfl rfl
set_option maxRecDepth 100000 in
theorem x_Lw_law_662 {sc : Int × (Int → Int)} {d : Nat} {L st : List om_V} {h : om_H} {Q : Option om_V → om_H → Prop} : om_R sc d 0 662 L st h Q = om_R sc d 0 663 L (.inl 0 :: st) h Q := om_q_iconst rfl (by decide)
set_option maxRecDepth 100000 in
theorem x_Lw_law_663 {sc : Int × (Int → Int)} {d : Nat} {z : Int} {L : List om_V} {h : om_H} {Q : Option om_V → om_H → Prop} : om_R sc d 0 663 L [.inl z] h Q = ((z = 0 ∨ z = 1) ∧ Q (some (.inl z)) h) := om_q_zret rfl rfl
set_option maxRecDepth 100000 in
theorem x_Lw_law_664 {sc : Int × (Int → Int)} {d : Nat} {l0 l2 l3 : om_V} {a : Nat} {st : List om_V} {h : om_H} {Q : Option om_V → om_H → Prop} : om_R sc d 0 664 [l0, .inr (.inl a), l2, l3] st h Q = om_R sc d 0 665 [l0, .inr (.inl a), l2, l3] (.inr (.inl a) :: st) h Q := om_q_aload_n rfl rfl
set_option maxRecDepth 100000 in
theorem x_Lw_law_665 {sc : Int × (Int → Int)} {d : Nat} {l1 l2 l3 : om_V} {st : List om_V} {h : om_H} {Q : Option om_V → om_H → Prop} : om_R sc d 0 665 [.inr (.inr 2), l1, l2, l3] st h Q = om_R sc d 0 666 [.inr (.inr 2), l1, l2, l3] (.inr (.inr 2) :: st) h Q := om_q_sload_n rfl rfl
set_option maxRecDepth 100000 in
theorem x_Lw_law_666 {sc : Int × (Int → Int)} {d : Nat} {l0 l1 l2 : om_V} {z : Int} {st : List om_V} {h : om_H} {Q : Option om_V → om_H → Prop} : om_R sc d 0 666 [l0, l1, l2, .inl z] st h Q = om_R sc d 0 667 [l0, l1, l2, .inl z] (.inl z :: st) h Q := om_q_iload_n rfl rfl
set_option maxRecDepth 100000 in
theorem x_Lw_law_667 {sc : Int × (Int → Int)} {d : Nat} {L st : List om_V} {h : om_H} {Q : Option om_V → om_H → Prop} : om_R sc d 0 667 L st h Q = om_R sc d 0 668 L (.inl 1 :: st) h Q := om_q_iconst rfl (by decide)
set_option maxRecDepth 100000 in
theorem x_Lw_law_668 {sc : Int × (Int → Int)} {d : Nat} {x y : Int} {L st : List om_V} {h : om_H} {Q : Option om_V → om_H → Prop} : om_R sc d 0 668 L (.inl y :: .inl x :: st) h Q = (om_Z (x + y) ∧ om_R sc d 0 669 L (.inl (x + y) :: st) h Q) := om_q_iadd rfl
set_option maxRecDepth 100000 in
theorem x_Lw_law_669 {sc : Int × (Int → Int)} {d : Nat} {z : Int} {L st : List om_V} {h : om_H} {Q : Option om_V → om_H → Prop} : om_R sc d 0 669 L (.inl z :: .inr (.inr 2) :: st) h Q = ((0 ≤ z ∧ z < sc.1) ∧ om_R sc d 0 670 L (.inl (sc.2 z) :: st) h Q) := om_q_sald rfl
set_option maxRecDepth 100000 in
theorem x_Lw_law_670 {sc : Int × (Int → Int)} {d : Nat} {a : Nat} {x1 : om_V} {L st : List om_V} {O : List (Nat × Nat × List om_V)} {I : Nat → Int → Int} {Q : Option om_V → om_H → Prop} : om_R sc (d + 1) 0 670 L (x1 :: .inr (.inl a) :: st) (O, I) Q = (om_rv O a 8 ∧ st.length ≤ 8 ∧ om_R sc d 93 0 [.inr (.inl a), x1] [] (O, I) (fun v h' => om_R sc (d + 1) 0 673 L (v.toList ++ st) h' Q)) := om_q_virt (n := 1) rfl rfl rfl rfl (by simp) rfl
set_option maxRecDepth 100000 in
theorem x_Lw_law_673 {sc : Int × (Int → Int)} {d : Nat} {l0 l1 l3 : om_V} {a : Nat} {st : List om_V} {h : om_H} {Q : Option om_V → om_H → Prop} : om_R sc d 0 673 [l0, l1, .inr (.inl a), l3] st h Q = om_R sc d 0 674 [l0, l1, .inr (.inl a), l3] (.inr (.inl a) :: st) h Q := om_q_aload_n rfl rfl
set_option maxRecDepth 100000 in
theorem x_Lw_law_674 {sc : Int × (Int → Int)} {d : Nat} {l1 l2 l3 : om_V} {st : List om_V} {h : om_H} {Q : Option om_V → om_H → Prop} : om_R sc d 0 674 [.inr (.inr 2), l1, l2, l3] st h Q = om_R sc d 0 675 [.inr (.inr 2), l1, l2, l3] (.inr (.inr 2) :: st) h Q := om_q_sload_n rfl rfl
set_option maxRecDepth 100000 in
theorem x_Lw_law_675 {sc : Int × (Int → Int)} {d : Nat} {l0 l1 l2 : om_V} {z : Int} {st : List om_V} {h : om_H} {Q : Option om_V → om_H → Prop} : om_R sc d 0 675 [l0, l1, l2, .inl z] st h Q = om_R sc d 0 676 [l0, l1, l2, .inl z] (.inl z :: st) h Q := om_q_iload_n rfl rfl
set_option maxRecDepth 100000 in
theorem x_Lw_law_676 {sc : Int × (Int → Int)} {d : Nat} {L st : List om_V} {h : om_H} {Q : Option om_V → om_H → Prop} : om_R sc d 0 676 L st h Q = om_R sc d 0 677 L (.inl 1 :: st) h Q := om_q_iconst rfl (by decide)
set_option maxRecDepth 100000 in
theorem x_Lw_law_677 {sc : Int × (Int → Int)} {d : Nat} {x y : Int} {L st : List om_V} {h : om_H} {Q : Option om_V → om_H → Prop} : om_R sc d 0 677 L (.inl y :: .inl x :: st) h Q = (om_Z (x + y) ∧ om_R sc d 0 678 L (.inl (x + y) :: st) h Q) := om_q_iadd rfl
set_option maxRecDepth 100000 in
theorem x_Lw_law_678 {sc : Int × (Int → Int)} {d : Nat} {z : Int} {L st : List om_V} {h : om_H} {Q : Option om_V → om_H → Prop} : om_R sc d 0 678 L (.inl z :: .inr (.inr 2) :: st) h Q = ((0 ≤ z ∧ z < sc.1) ∧ om_R sc d 0 679 L (.inl (sc.2 z) :: st) h Q) := om_q_sald rfl
set_option maxRecDepth 100000 in
theorem x_Lw_law_679 {sc : Int × (Int → Int)} {d : Nat} {a : Nat} {x1 : om_V} {L st : List om_V} {O : List (Nat × Nat × List om_V)} {I : Nat → Int → Int} {Q : Option om_V → om_H → Prop} : om_R sc (d + 1) 0 679 L (x1 :: .inr (.inl a) :: st) (O, I) Q = (om_rv O a 9 ∧ st.length ≤ 8 ∧ om_R sc d 159 0 [.inr (.inl a), x1] [] (O, I) (fun v h' => om_R sc (d + 1) 0 682 L (v.toList ++ st) h' Q)) := om_q_virt (n := 1) rfl rfl rfl rfl (by simp) rfl
set_option maxRecDepth 100000 in
theorem x_Lw_law_682 {sc : Int × (Int → Int)} {d : Nat} {x y : Int} {L st : List om_V} {h : om_H} {Q : Option om_V → om_H → Prop} : om_R sc d 0 682 L (.inl y :: .inl x :: st) h Q = (if x = y then om_R sc d 0 687 L st h Q else om_R sc d 0 685 L st h Q) := om_q_iceq rfl rfl
set_option maxRecDepth 100000 in
theorem x_Lw_law_685 {sc : Int × (Int → Int)} {d : Nat} {L st : List om_V} {h : om_H} {Q : Option om_V → om_H → Prop} : om_R sc d 0 685 L st h Q = om_R sc d 0 686 L (.inl 0 :: st) h Q := om_q_iconst rfl (by decide)
set_option maxRecDepth 100000 in
theorem x_Lw_law_686 {sc : Int × (Int → Int)} {d : Nat} {z : Int} {L : List om_V} {h : om_H} {Q : Option om_V → om_H → Prop} : om_R sc d 0 686 L [.inl z] h Q = ((z = 0 ∨ z = 1) ∧ Q (some (.inl z)) h) := om_q_zret rfl rfl
set_option maxRecDepth 100000 in
theorem x_Lw_law_687 {sc : Int × (Int → Int)} {d : Nat} {l0 l1 l2 : om_V} {z : Int} {st : List om_V} {h : om_H} {Q : Option om_V → om_H → Prop} : om_R sc d 0 687 [l0, l1, l2, .inl z] st h Q = (om_Z (z + 5) ∧ om_R sc d 0 690 [l0, l1, l2, .inl (z + 5)] st h Q) := om_q_iinc (i := 3) (n := 5) rfl rfl
set_option maxRecDepth 100000 in
theorem x_Lw_law_690 {sc : Int × (Int → Int)} {d : Nat} {L st : List om_V} {h : om_H} {Q : Option om_V → om_H → Prop} : om_R sc d 0 690 L st h Q = om_R sc d 0 28 L st h Q := om_q_goto rfl rfl
set_option maxRecDepth 100000 in
theorem x_Lw_law_693 {sc : Int × (Int → Int)} {d : Nat} {L st : List om_V} {h : om_H} {Q : Option om_V → om_H → Prop} : om_R sc d 0 693 L st h Q = om_R sc d 0 694 L (.inl 1 :: st) h Q := om_q_iconst rfl (by decide)
set_option maxRecDepth 100000 in
theorem x_Lw_law_694 {sc : Int × (Int → Int)} {d : Nat} {z : Int} {L : List om_V} {h : om_H} {Q : Option om_V → om_H → Prop} : om_R sc d 0 694 L [.inl z] h Q = ((z = 0 ∨ z = 1) ∧ Q (some (.inl z)) h) := om_q_zret rfl rfl
theorem x_Lw_cell_0 {sc : Int × (Int → Int)} {d : Nat} {l0 : om_V} {z : Int} {st : List om_V} {h : om_H} {Q : Option om_V → om_H → Prop} : om_R sc d 94 0 [l0, .inl z] st h Q = om_R sc d 94 1 [l0, .inl z] (.inl z :: st) h Q := om_q_iload_n rfl rfl
theorem x_Lw_cell_1 {sc : Int × (Int → Int)} {d : Nat} {l1 : om_V} {st : List om_V} {h : om_H} {Q : Option om_V → om_H → Prop} : om_R sc d 94 1 [.inr (.inr 2), l1] st h Q = om_R sc d 94 2 [.inr (.inr 2), l1] (.inr (.inr 2) :: st) h Q := om_q_sload_n rfl rfl
theorem x_Lw_cell_2 {sc : Int × (Int → Int)} {d : Nat} {L st : List om_V} {h : om_H} {Q : Option om_V → om_H → Prop} : om_R sc d 94 2 L (.inr (.inr 2) :: st) h Q = (om_Z sc.1 ∧ om_R sc d 94 3 L (.inl sc.1 :: st) h Q) := om_q_slen rfl
theorem x_Lw_cell_3 {sc : Int × (Int → Int)} {d : Nat} {x y : Int} {L st : List om_V} {h : om_H} {Q : Option om_V → om_H → Prop} : om_R sc d 94 3 L (.inl y :: .inl x :: st) h Q = (if y ≤ x then om_R sc d 94 12 L st h Q else om_R sc d 94 6 L st h Q) := om_q_icge rfl rfl
theorem x_Lw_cell_6 {sc : Int × (Int → Int)} {d : Nat} {l1 : om_V} {st : List om_V} {h : om_H} {Q : Option om_V → om_H → Prop} : om_R sc d 94 6 [.inr (.inr 2), l1] st h Q = om_R sc d 94 7 [.inr (.inr 2), l1] (.inr (.inr 2) :: st) h Q := om_q_sload_n rfl rfl
theorem x_Lw_cell_7 {sc : Int × (Int → Int)} {d : Nat} {l0 : om_V} {z : Int} {st : List om_V} {h : om_H} {Q : Option om_V → om_H → Prop} : om_R sc d 94 7 [l0, .inl z] st h Q = om_R sc d 94 8 [l0, .inl z] (.inl z :: st) h Q := om_q_iload_n rfl rfl
theorem x_Lw_cell_8 {sc : Int × (Int → Int)} {d : Nat} {z : Int} {L st : List om_V} {h : om_H} {Q : Option om_V → om_H → Prop} : om_R sc d 94 8 L (.inl z :: .inr (.inr 2) :: st) h Q = ((0 ≤ z ∧ z < sc.1) ∧ om_R sc d 94 9 L (.inl (sc.2 z) :: st) h Q) := om_q_sald rfl
theorem x_Lw_cell_9 {sc : Int × (Int → Int)} {d : Nat} {L st : List om_V} {h : om_H} {Q : Option om_V → om_H → Prop} : om_R sc d 94 9 L st h Q = om_R sc d 94 13 L st h Q := om_q_goto rfl rfl
theorem x_Lw_cell_12 {sc : Int × (Int → Int)} {d : Nat} {L st : List om_V} {h : om_H} {Q : Option om_V → om_H → Prop} : om_R sc d 94 12 L st h Q = om_R sc d 94 13 L (.inl 0 :: st) h Q := om_q_iconst rfl (by decide)
theorem x_Lw_cell_13 {sc : Int × (Int → Int)} {d : Nat} {z : Int} {L : List om_V} {h : om_H} {Q : Option om_V → om_H → Prop} : om_R sc d 94 13 L [.inl z] h Q = Q (some (.inl z)) h := om_q_iret rfl rfl
