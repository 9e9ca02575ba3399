/-! the code lists are what the bytes decode to -/
def om_chk (bs : ByteArray) : List (Option (Instr × Nat)) → Nat → Bool
  | [], _ => true
  | none :: t, i => om_chk bs t (i + 1)
  | some x :: t, i => (match decode bs i with
    | .ok y => decide (y = x)
    | _ => false) && om_chk bs t (i + 1)
theorem om_chk_at {bs : ByteArray} : ∀ {l : List (Option (Instr × Nat))} {i : Nat}, om_chk bs l i = true → ∀ {k : Nat} {x : Instr × Nat}, l[k]? = some (some x) → decode bs (i + k) = .ok x
  | [], _, _, _, _, h => by simp at h
  | none :: t, i, h, k, x, hk => by
    cases k with
    | zero => simp at hk
    | succ k =>
      have h2 := om_chk_at (l := t) (i := i + 1) h (k := k) (x := x) (by simpa using hk)
      rw [← h2]; congr 1; omega
  | some y :: t, i, h, k, x, hk => by
    simp only [om_chk, Bool.and_eq_true] at h
    cases k with
    | zero =>
      have hyx : y = x := by simpa using hk
      subst hyx
      have h1 := h.1
      cases hd : decode bs i with
      | ok z => rw [hd] at h1; simp only [decide_eq_true_eq] at h1; subst h1; first | exact hd | rfl
      | error e => rw [hd] at h1; cases h1
    | succ k =>
      have h2 := om_chk_at (l := t) (i := i + 1) h.2 (k := k) (x := x) (by simpa using hk)
      rw [← h2]; congr 1; omega

theorem om_k0 : om_chk code om_c0 0 = true := by decide +kernel
theorem om_k1 : om_chk prog_1_method_1_code om_c1 0 = true := by decide +kernel
theorem om_k2 : om_chk prog_8_method_1_code om_c2 0 = true := by decide +kernel
theorem om_k3 : om_chk prog_7_method_1_code om_c3 0 = true := by decide +kernel
theorem om_k4 : om_chk prog_2_method_1_code om_c4 0 = true := by decide +kernel
theorem om_k5 : om_chk prog_9_method_1_code om_c5 0 = true := by decide +kernel
theorem om_k6 : om_chk prog_3_method_1_code om_c6 0 = true := by decide +kernel
theorem om_k7 : om_chk prog_5_method_1_code om_c7 0 = true := by decide +kernel
theorem om_k8 : om_chk prog_4_method_1_code om_c8 0 = true := by decide +kernel
theorem om_k9 : om_chk prog_6_method_1_code om_c9 0 = true := by decide +kernel
theorem om_k10 : om_chk prog_1_method_2_code om_c10 0 = true := by decide +kernel
theorem om_k11 : om_chk prog_9_method_2_code om_c11 0 = true := by decide +kernel
theorem om_k12 : om_chk prog_1_method_3_code om_c12 0 = true := by decide +kernel
theorem om_k13 : om_chk prog_9_method_3_code om_c13 0 = true := by decide +kernel
theorem om_k14 : om_chk prog_1_method_4_code om_c14 0 = true := by decide +kernel
theorem om_k15 : om_chk prog_1_method_20_code om_c15 0 = true := by decide +kernel
theorem om_k16 : om_chk prog_1_method_22_code om_c16 0 = true := by decide +kernel
theorem om_k17 : om_chk prog_9_method_4_code om_c17 0 = true := by decide +kernel
theorem om_k18 : om_chk prog_9_method_11_code om_c18 0 = true := by decide +kernel
theorem om_k19 : om_chk prog_9_method_6_code om_c19 0 = true := by decide +kernel
theorem om_k20 : om_chk prog_9_method_8_code om_c20 0 = true := by decide +kernel
theorem om_k21 : om_chk prog_9_method_10_code om_c21 0 = true := by decide +kernel
theorem om_k22 : om_chk prog_7_method_4_code om_c22 0 = true := by decide +kernel
theorem om_k23 : om_chk prog_14_method_103_code om_c23 0 = true := by decide +kernel
theorem om_k24 : om_chk prog_9_method_12_code om_c24 0 = true := by decide +kernel
theorem om_k25 : om_chk prog_7_method_5_code om_c25 0 = true := by decide +kernel
theorem om_k26 : om_chk prog_7_method_3_code om_c26 0 = true := by decide +kernel
theorem om_k27 : om_chk prog_9_method_13_code om_c27 0 = true := by decide +kernel
theorem om_k28 : om_chk prog_9_method_14_code om_c28 0 = true := by decide +kernel
theorem om_k29 : om_chk prog_9_method_7_code om_c29 0 = true := by decide +kernel
theorem om_k30 : om_chk prog_9_method_15_code om_c30 0 = true := by decide +kernel
theorem om_k31 : om_chk prog_9_method_16_code om_c31 0 = true := by decide +kernel
theorem om_k32 : om_chk prog_7_method_6_code om_c32 0 = true := by decide +kernel
theorem om_k33 : om_chk prog_12_method_69_code om_c33 0 = true := by decide +kernel
theorem om_k34 : om_chk prog_2_method_4_code om_c34 0 = true := by decide +kernel
theorem om_k35 : om_chk prog_7_method_15_code om_c35 0 = true := by decide +kernel
theorem om_k36 : om_chk prog_7_method_2_code om_c36 0 = true := by decide +kernel
theorem om_k37 : om_chk prog_7_method_9_code om_c37 0 = true := by decide +kernel
theorem om_k38 : om_chk prog_7_method_10_code om_c38 0 = true := by decide +kernel
theorem om_k39 : om_chk prog_7_method_12_code om_c39 0 = true := by decide +kernel
theorem om_k40 : om_chk prog_7_method_13_code om_c40 0 = true := by decide +kernel
theorem om_k41 : om_chk prog_7_method_16_code om_c41 0 = true := by decide +kernel
theorem om_k42 : om_chk prog_7_method_14_code om_c42 0 = true := by decide +kernel
theorem om_k43 : om_chk prog_9_method_9_code om_c43 0 = true := by decide +kernel
theorem om_k44 : om_chk prog_7_method_8_code om_c44 0 = true := by decide +kernel
theorem om_k45 : om_chk prog_9_method_5_code om_c45 0 = true := by decide +kernel
theorem om_k46 : om_chk prog_1_method_5_code om_c46 0 = true := by decide +kernel
theorem om_k47 : om_chk prog_1_method_6_code om_c47 0 = true := by decide +kernel
theorem om_k48 : om_chk prog_1_method_7_code om_c48 0 = true := by decide +kernel
theorem om_k49 : om_chk prog_1_method_21_code om_c49 0 = true := by decide +kernel
theorem om_k50 : om_chk prog_2_method_3_code om_c50 0 = true := by decide +kernel
theorem om_k51 : om_chk prog_1_method_19_code om_c51 0 = true := by decide +kernel
theorem om_k52 : om_chk prog_1_method_8_code om_c52 0 = true := by decide +kernel
theorem om_k53 : om_chk prog_1_method_9_code om_c53 0 = true := by decide +kernel
theorem om_k54 : om_chk prog_2_method_5_code om_c54 0 = true := by decide +kernel
theorem om_k55 : om_chk prog_7_method_7_code om_c55 0 = true := by decide +kernel
theorem om_k56 : om_chk prog_7_method_11_code om_c56 0 = true := by decide +kernel
theorem om_k57 : om_chk prog_1_method_10_code om_c57 0 = true := by decide +kernel
theorem om_k58 : om_chk prog_3_method_2_code om_c58 0 = true := by decide +kernel
theorem om_k59 : om_chk prog_3_method_3_code om_c59 0 = true := by decide +kernel
theorem om_k60 : om_chk prog_2_method_2_code om_c60 0 = true := by decide +kernel
theorem om_k61 : om_chk prog_3_method_4_code om_c61 0 = true := by decide +kernel
theorem om_k62 : om_chk prog_1_method_11_code om_c62 0 = true := by decide +kernel
theorem om_k63 : om_chk prog_5_method_2_code om_c63 0 = true := by decide +kernel
theorem om_k64 : om_chk prog_5_method_5_code om_c64 0 = true := by decide +kernel
theorem om_k65 : om_chk prog_5_method_6_code om_c65 0 = true := by decide +kernel
theorem om_k66 : om_chk prog_5_method_3_code om_c66 0 = true := by decide +kernel
theorem om_k67 : om_chk prog_5_method_4_code om_c67 0 = true := by decide +kernel
theorem om_k68 : om_chk prog_1_method_12_code om_c68 0 = true := by decide +kernel
theorem om_k69 : om_chk prog_4_method_2_code om_c69 0 = true := by decide +kernel
theorem om_k70 : om_chk prog_4_method_3_code om_c70 0 = true := by decide +kernel
theorem om_k71 : om_chk prog_4_method_4_code om_c71 0 = true := by decide +kernel
theorem om_k72 : om_chk prog_4_method_5_code om_c72 0 = true := by decide +kernel
theorem om_k73 : om_chk prog_4_method_6_code om_c73 0 = true := by decide +kernel
theorem om_k74 : om_chk prog_4_method_7_code om_c74 0 = true := by decide +kernel
theorem om_k75 : om_chk prog_4_method_8_code om_c75 0 = true := by decide +kernel
theorem om_k76 : om_chk prog_4_method_9_code om_c76 0 = true := by decide +kernel
theorem om_k77 : om_chk prog_1_method_13_code om_c77 0 = true := by decide +kernel
theorem om_k78 : om_chk prog_1_method_14_code om_c78 0 = true := by decide +kernel
theorem om_k79 : om_chk prog_6_method_2_code om_c79 0 = true := by decide +kernel
theorem om_k80 : om_chk prog_6_method_3_code om_c80 0 = true := by decide +kernel
theorem om_k81 : om_chk prog_6_method_4_code om_c81 0 = true := by decide +kernel
theorem om_k82 : om_chk prog_6_method_6_code om_c82 0 = true := by decide +kernel
theorem om_k83 : om_chk prog_6_method_5_code om_c83 0 = true := by decide +kernel
theorem om_k84 : om_chk prog_1_method_15_code om_c84 0 = true := by decide +kernel
theorem om_k85 : om_chk prog_1_method_16_code om_c85 0 = true := by decide +kernel
theorem om_k86 : om_chk prog_7_method_17_code om_c86 0 = true := by decide +kernel
theorem om_k87 : om_chk prog_1_method_17_code om_c87 0 = true := by decide +kernel
theorem om_k88 : om_chk prog_8_method_2_code om_c88 0 = true := by decide +kernel
theorem om_k89 : om_chk prog_8_method_3_code om_c89 0 = true := by decide +kernel
theorem om_k90 : om_chk prog_8_method_6_code om_c90 0 = true := by decide +kernel
theorem om_k91 : om_chk prog_8_method_5_code om_c91 0 = true := by decide +kernel
theorem om_k92 : om_chk prog_8_method_4_code om_c92 0 = true := by decide +kernel
theorem om_k93 : om_chk prog_1_method_18_code om_c93 0 = true := by decide +kernel
theorem om_k94 : om_chk method_2_code om_c94 0 = true := by decide +kernel
theorem om_k95 : om_chk prog_11_method_1_code om_c95 0 = true := by decide +kernel
theorem om_k96 : om_chk prog_11_method_19_code om_c96 0 = true := by decide +kernel
theorem om_k97 : om_chk prog_11_method_20_code om_c97 0 = true := by decide +kernel
theorem om_k98 : om_chk prog_11_method_34_code om_c98 0 = true := by decide +kernel
theorem om_k99 : om_chk prog_11_method_2_code om_c99 0 = true := by decide +kernel
theorem om_k100 : om_chk prog_11_method_24_code om_c100 0 = true := by decide +kernel
theorem om_k101 : om_chk prog_11_method_22_code om_c101 0 = true := by decide +kernel
theorem om_k102 : om_chk prog_11_method_21_code om_c102 0 = true := by decide +kernel
theorem om_k103 : om_chk prog_11_method_23_code om_c103 0 = true := by decide +kernel
theorem om_k104 : om_chk prog_11_method_33_code om_c104 0 = true := by decide +kernel
theorem om_k105 : om_chk prog_11_method_31_code om_c105 0 = true := by decide +kernel
theorem om_k106 : om_chk prog_11_method_25_code om_c106 0 = true := by decide +kernel
theorem om_k107 : om_chk prog_11_method_27_code om_c107 0 = true := by decide +kernel
theorem om_k108 : om_chk prog_11_method_28_code om_c108 0 = true := by decide +kernel
theorem om_k109 : om_chk prog_11_method_26_code om_c109 0 = true := by decide +kernel
theorem om_k110 : om_chk prog_11_method_29_code om_c110 0 = true := by decide +kernel
theorem om_k111 : om_chk prog_11_method_3_code om_c111 0 = true := by decide +kernel
theorem om_k112 : om_chk prog_11_method_9_code om_c112 0 = true := by decide +kernel
theorem om_k113 : om_chk prog_11_method_5_code om_c113 0 = true := by decide +kernel
theorem om_k114 : om_chk prog_11_method_30_code om_c114 0 = true := by decide +kernel
theorem om_k115 : om_chk prog_11_method_8_code om_c115 0 = true := by decide +kernel
theorem om_k116 : om_chk prog_11_method_18_code om_c116 0 = true := by decide +kernel
theorem om_k117 : om_chk prog_11_method_13_code om_c117 0 = true := by decide +kernel
theorem om_k118 : om_chk prog_11_method_14_code om_c118 0 = true := by decide +kernel
theorem om_k119 : om_chk prog_11_method_6_code om_c119 0 = true := by decide +kernel
theorem om_k120 : om_chk prog_11_method_15_code om_c120 0 = true := by decide +kernel
theorem om_k121 : om_chk prog_11_method_7_code om_c121 0 = true := by decide +kernel
theorem om_k122 : om_chk prog_11_method_17_code om_c122 0 = true := by decide +kernel
theorem om_k123 : om_chk prog_11_method_16_code om_c123 0 = true := by decide +kernel
theorem om_k124 : om_chk prog_11_method_10_code om_c124 0 = true := by decide +kernel
theorem om_k125 : om_chk prog_11_method_12_code om_c125 0 = true := by decide +kernel
theorem om_k126 : om_chk prog_11_method_11_code om_c126 0 = true := by decide +kernel
theorem om_k127 : om_chk prog_11_method_32_code om_c127 0 = true := by decide +kernel
theorem om_k128 : om_chk prog_11_method_35_code om_c128 0 = true := by decide +kernel
theorem om_k129 : om_chk prog_11_method_36_code om_c129 0 = true := by decide +kernel
theorem om_k130 : om_chk prog_11_method_37_code om_c130 0 = true := by decide +kernel
theorem om_k131 : om_chk prog_11_method_38_code om_c131 0 = true := by decide +kernel
theorem om_k132 : om_chk prog_11_method_41_code om_c132 0 = true := by decide +kernel
theorem om_k133 : om_chk prog_11_method_40_code om_c133 0 = true := by decide +kernel
theorem om_k134 : om_chk prog_11_method_39_code om_c134 0 = true := by decide +kernel
theorem om_k135 : om_chk prog_11_method_43_code om_c135 0 = true := by decide +kernel
theorem om_k136 : om_chk prog_11_method_42_code om_c136 0 = true := by decide +kernel
theorem om_k137 : om_chk prog_11_method_4_code om_c137 0 = true := by decide +kernel
theorem om_k138 : om_chk prog_11_method_47_code om_c138 0 = true := by decide +kernel
theorem om_k139 : om_chk prog_11_method_45_code om_c139 0 = true := by decide +kernel
theorem om_k140 : om_chk prog_11_method_46_code om_c140 0 = true := by decide +kernel
theorem om_k141 : om_chk prog_11_method_44_code om_c141 0 = true := by decide +kernel
theorem om_k142 : om_chk prog_11_method_54_code om_c142 0 = true := by decide +kernel
theorem om_k143 : om_chk prog_11_method_53_code om_c143 0 = true := by decide +kernel
theorem om_k144 : om_chk prog_11_method_52_code om_c144 0 = true := by decide +kernel
theorem om_k145 : om_chk prog_11_method_48_code om_c145 0 = true := by decide +kernel
theorem om_k146 : om_chk prog_11_method_49_code om_c146 0 = true := by decide +kernel
theorem om_k147 : om_chk prog_11_method_50_code om_c147 0 = true := by decide +kernel
theorem om_k148 : om_chk prog_11_method_51_code om_c148 0 = true := by decide +kernel
theorem om_k149 : om_chk prog_11_method_55_code om_c149 0 = true := by decide +kernel
theorem om_k150 : om_chk prog_11_method_58_code om_c150 0 = true := by decide +kernel
theorem om_k151 : om_chk prog_11_method_56_code om_c151 0 = true := by decide +kernel
theorem om_k152 : om_chk prog_11_method_57_code om_c152 0 = true := by decide +kernel
theorem om_k153 : om_chk prog_11_method_59_code om_c153 0 = true := by decide +kernel
theorem om_k154 : om_chk prog_11_method_60_code om_c154 0 = true := by decide +kernel
theorem om_k155 : om_chk prog_11_method_64_code om_c155 0 = true := by decide +kernel
theorem om_k156 : om_chk prog_11_method_61_code om_c156 0 = true := by decide +kernel
theorem om_k157 : om_chk prog_11_method_62_code om_c157 0 = true := by decide +kernel
theorem om_k158 : om_chk prog_11_method_63_code om_c158 0 = true := by decide +kernel
theorem om_k159 : om_chk prog_11_method_65_code om_c159 0 = true := by decide +kernel
