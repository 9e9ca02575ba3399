/-! every step of the small machine is of one of three kinds, and each is what the machine does -/
theorem om_kk {mi : Nat} (h : mi < 160) : om_chk (om_by mi) (om_cs.getD mi []) 0 = true := by
  match mi, h with
  | 0, _ => exact om_k0
  | 1, _ => exact om_k1
  | 2, _ => exact om_k2
  | 3, _ => exact om_k3
  | 4, _ => exact om_k4
  | 5, _ => exact om_k5
  | 6, _ => exact om_k6
  | 7, _ => exact om_k7
  | 8, _ => exact om_k8
  | 9, _ => exact om_k9
  | 10, _ => exact om_k10
  | 11, _ => exact om_k11
  | 12, _ => exact om_k12
  | 13, _ => exact om_k13
  | 14, _ => exact om_k14
  | 15, _ => exact om_k15
  | 16, _ => exact om_k16
  | 17, _ => exact om_k17
  | 18, _ => exact om_k18
  | 19, _ => exact om_k19
  | 20, _ => exact om_k20
  | 21, _ => exact om_k21
  | 22, _ => exact om_k22
  | 23, _ => exact om_k23
  | 24, _ => exact om_k24
  | 25, _ => exact om_k25
  | 26, _ => exact om_k26
  | 27, _ => exact om_k27
  | 28, _ => exact om_k28
  | 29, _ => exact om_k29
  | 30, _ => exact om_k30
  | 31, _ => exact om_k31
  | 32, _ => exact om_k32
  | 33, _ => exact om_k33
  | 34, _ => exact om_k34
  | 35, _ => exact om_k35
  | 36, _ => exact om_k36
  | 37, _ => exact om_k37
  | 38, _ => exact om_k38
  | 39, _ => exact om_k39
  | 40, _ => exact om_k40
  | 41, _ => exact om_k41
  | 42, _ => exact om_k42
  | 43, _ => exact om_k43
  | 44, _ => exact om_k44
  | 45, _ => exact om_k45
  | 46, _ => exact om_k46
  | 47, _ => exact om_k47
  | 48, _ => exact om_k48
  | 49, _ => exact om_k49
  | 50, _ => exact om_k50
  | 51, _ => exact om_k51
  | 52, _ => exact om_k52
  | 53, _ => exact om_k53
  | 54, _ => exact om_k54
  | 55, _ => exact om_k55
  | 56, _ => exact om_k56
  | 57, _ => exact om_k57
  | 58, _ => exact om_k58
  | 59, _ => exact om_k59
  | 60, _ => exact om_k60
  | 61, _ => exact om_k61
  | 62, _ => exact om_k62
  | 63, _ => exact om_k63
  | 64, _ => exact om_k64
  | 65, _ => exact om_k65
  | 66, _ => exact om_k66
  | 67, _ => exact om_k67
  | 68, _ => exact om_k68
  | 69, _ => exact om_k69
  | 70, _ => exact om_k70
  | 71, _ => exact om_k71
  | 72, _ => exact om_k72
  | 73, _ => exact om_k73
  | 74, _ => exact om_k74
  | 75, _ => exact om_k75
  | 76, _ => exact om_k76
  | 77, _ => exact om_k77
  | 78, _ => exact om_k78
  | 79, _ => exact om_k79
  | 80, _ => exact om_k80
  | 81, _ => exact om_k81
  | 82, _ => exact om_k82
  | 83, _ => exact om_k83
  | 84, _ => exact om_k84
  | 85, _ => exact om_k85
  | 86, _ => exact om_k86
  | 87, _ => exact om_k87
  | 88, _ => exact om_k88
  | 89, _ => exact om_k89
  | 90, _ => exact om_k90
  | 91, _ => exact om_k91
  | 92, _ => exact om_k92
  | 93, _ => exact om_k93
  | 94, _ => exact om_k94
  | 95, _ => exact om_k95
  | 96, _ => exact om_k96
  | 97, _ => exact om_k97
  | 98, _ => exact om_k98
  | 99, _ => exact om_k99
  | 100, _ => exact om_k100
  | 101, _ => exact om_k101
  | 102, _ => exact om_k102
  | 103, _ => exact om_k103
  | 104, _ => exact om_k104
  | 105, _ => exact om_k105
  | 106, _ => exact om_k106
  | 107, _ => exact om_k107
  | 108, _ => exact om_k108
  | 109, _ => exact om_k109
  | 110, _ => exact om_k110
  | 111, _ => exact om_k111
  | 112, _ => exact om_k112
  | 113, _ => exact om_k113
  | 114, _ => exact om_k114
  | 115, _ => exact om_k115
  | 116, _ => exact om_k116
  | 117, _ => exact om_k117
  | 118, _ => exact om_k118
  | 119, _ => exact om_k119
  | 120, _ => exact om_k120
  | 121, _ => exact om_k121
  | 122, _ => exact om_k122
  | 123, _ => exact om_k123
  | 124, _ => exact om_k124
  | 125, _ => exact om_k125
  | 126, _ => exact om_k126
  | 127, _ => exact om_k127
  | 128, _ => exact om_k128
  | 129, _ => exact om_k129
  | 130, _ => exact om_k130
  | 131, _ => exact om_k131
  | 132, _ => exact om_k132
  | 133, _ => exact om_k133
  | 134, _ => exact om_k134
  | 135, _ => exact om_k135
  | 136, _ => exact om_k136
  | 137, _ => exact om_k137
  | 138, _ => exact om_k138
  | 139, _ => exact om_k139
  | 140, _ => exact om_k140
  | 141, _ => exact om_k141
  | 142, _ => exact om_k142
  | 143, _ => exact om_k143
  | 144, _ => exact om_k144
  | 145, _ => exact om_k145
  | 146, _ => exact om_k146
  | 147, _ => exact om_k147
  | 148, _ => exact om_k148
  | 149, _ => exact om_k149
  | 150, _ => exact om_k150
  | 151, _ => exact om_k151
  | 152, _ => exact om_k152
  | 153, _ => exact om_k153
  | 154, _ => exact om_k154
  | 155, _ => exact om_k155
  | 156, _ => exact om_k156
  | 157, _ => exact om_k157
  | 158, _ => exact om_k158
  | 159, _ => exact om_k159
  | n + 160, h => exact absurd h (by omega)
theorem om_cd_ok {mi pc len : Nat} {ins : Instr} (h : om_cd mi pc = some (ins, len)) : decode (om_by mi) pc = .ok (ins, len) := by
  unfold om_cd at h
  by_cases hm : mi < 160
  · have h1 := om_chk_at (om_kk hm) (k := pc) (x := (ins, len)) (by
      rw [List.getD_eq_getElem?_getD] at h
      cases hq : (om_cs.getD mi [])[pc]? with
      | none => rw [hq] at h; cases h
      | some w => rw [hq] at h; rw [show w = some (ins, len) from h])
    rwa [Nat.zero_add] at h1
  · have e1 : om_cs.getD mi [] = [] := by
      rw [List.getD_eq_getElem?_getD, List.getElem?_eq_none (by have : om_cs.length = 160 := by decide +kernel
                                                                omega)]
      rfl
    rw [e1] at h
    cases h
section om_ivs
variable {p : Program} {l : Launch} {e : Env} {R : Room} {s : State} {m : MethodId} {args : Array Value} {below : List Frame} {meth : Method} {c : Code} {Q : State → Prop} {mi : Nat} {D : va_G} {dA : Nat → ClassId} {b bs : Nat} {sc : Int × (Int → Int)} {ad0 : List Nat} {cells slots pc : Nat} {L st : List om_V} {h : om_H}
set_option maxHeartbeats 4000000 in
theorem om_inv {r : om_S} (hs : om_step sc mi pc L st h = some r) : om_Pf p l e R s m args below meth c Q mi D dA b bs sc ad0 cells slots pc L st h r := by
  unfold om_step at hs
  cases hc : om_cd mi pc with
  | none => rw [hc] at hs; cases hs
  | some il =>
    obtain ⟨ins, len⟩ := il
    rw [hc] at hs
    dsimp only at hs
    split at hs
    · rename_i hlen
      have hd := om_cd_ok hc
      clear hc
      cases ins <;> first | (change (none : Option om_S) = _ at hs; cases hs; done) | skip
      case iconst n =>
        have hl : len = 1 := by simpa [om_lok] using hlen
        subst hl
        change (if om_Z n then om_nx (pc + 1) L (.inl n :: st) h else none) = _ at hs
        split at hs
        · rename_i hz
          exact om_same (Option.some.inj hs).symm (fun C _ _ _ _ g => om_g_iconst C hd hz g)
        · cases hs
      case bipush n =>
        have hl : len = 2 := by simpa [om_lok] using hlen
        subst hl
        change (if -128 ≤ n ∧ n ≤ 127 then om_nx (pc + 2) L (.inl n :: st) h else none) = _ at hs
        split at hs
        · rename_i hz
          exact om_same (Option.some.inj hs).symm (fun C _ _ _ _ g => om_g_bipush C hd hz g)
        · cases hs
      case sipush n =>
        have hl : len = 3 := by simpa [om_lok] using hlen
        subst hl
        change (if -32768 ≤ n ∧ n ≤ 32767 then om_nx (pc + 3) L (.inl n :: st) h else none) = _ at hs
        split at hs
        · rename_i hz
          exact om_same (Option.some.inj hs).symm (fun C _ _ _ _ g => om_g_sipush C hd hz g)
        · cases hs
      case iload_n k =>
        have hl : len = 1 := by simpa [om_lok] using hlen
        subst hl
        obtain ⟨z, h1, h2⟩ := om_ild_i (show om_ild (pc + 1) L st h k.val = some r from hs)
        exact om_same h2 (fun C _ _ _ _ g => om_g_iload_n C hd h1 g)
      case iload k =>
        have hl : len = 2 := by simpa [om_lok] using hlen
        subst hl
        obtain ⟨z, h1, h2⟩ := om_ild_i (show om_ild (pc + 2) L st h k = some r from hs)
        exact om_same h2 (fun C _ _ _ _ g => om_g_iload C hd h1 g)
      case aload_n k =>
        have hl : len = 1 := by simpa [om_lok] using hlen
        subst hl
        obtain ⟨z, hz, h1, h2⟩ := om_ald_i (show om_ald (pc + 1) L st h k.val = some r from hs)
        exact om_same h2 (fun C _ _ _ _ g => om_g_aload_n C hd hz h1 g)
      case aload k =>
        have hl : len = 2 := by simpa [om_lok] using hlen
        subst hl
        obtain ⟨z, hz, h1, h2⟩ := om_ald_i (show om_ald (pc + 2) L st h k = some r from hs)
        exact om_same h2 (fun C _ _ _ _ g => om_g_aload C hd hz h1 g)
      case istore_n k =>
        have hl : len = 1 := by simpa [om_lok] using hlen
        subst hl
        obtain ⟨z, st', rfl, h1, h2⟩ := om_ist_i (show om_ist (pc + 1) L st h k.val = some r from hs)
        exact om_same h2 (fun C _ _ _ _ g => om_g_istore_n C hd h1 g)
      case istore k =>
        have hl : len = 2 := by simpa [om_lok] using hlen
        subst hl
        obtain ⟨z, st', rfl, h1, h2⟩ := om_ist_i (show om_ist (pc + 2) L st h k = some r from hs)
        exact om_same h2 (fun C _ _ _ _ g => om_g_istore C hd h1 g)
      case astore_n k =>
        have hl : len = 1 := by simpa [om_lok] using hlen
        subst hl
        obtain ⟨z, st', rfl, h1, h2⟩ := om_ast_i (show om_ast (pc + 1) L st h k.val = some r from hs)
        exact om_same h2 (fun C _ _ _ _ g => om_g_astore_n C hd h1 g)
      case astore k =>
        have hl : len = 2 := by simpa [om_lok] using hlen
        subst hl
        obtain ⟨z, st', rfl, h1, h2⟩ := om_ast_i (show om_ast (pc + 2) L st h k = some r from hs)
        exact om_same h2 (fun C _ _ _ _ g => om_g_astore C hd h1 g)
      case iinc i n =>
        have hl : len = 3 := by simpa [om_lok] using hlen
        subst hl
        simp only [om_ex] at hs
        split at hs
        · rename_i z hz
          split at hs
          · rename_i hzz
            exact om_same (Option.some.inj hs).symm (fun C _ _ _ _ g => om_g_iinc C hd hz hzz g)
          · cases hs
        · cases hs
      case iadd =>
        have hl : len = 1 := by simpa [om_lok] using hlen
        subst hl
        obtain ⟨x, y, st', rfl, h1, h2⟩ := om_bin_i (show om_bin (pc + 1) L st h (fun a b => a + b) = some r from hs)
        exact om_same h2 (fun C _ _ _ _ g => om_g_iadd C hd h1 g)
      case isub =>
        have hl : len = 1 := by simpa [om_lok] using hlen
        subst hl
        obtain ⟨x, y, st', rfl, h1, h2⟩ := om_bin_i (show om_bin (pc + 1) L st h (fun a b => a - b) = some r from hs)
        exact om_same h2 (fun C _ _ _ _ g => om_g_isub C hd h1 g)
      case imul =>
        have hl : len = 1 := by simpa [om_lok] using hlen
        subst hl
        obtain ⟨x, y, st', rfl, h1, h2⟩ := om_bin_i (show om_bin (pc + 1) L st h (fun a b => a * b) = some r from hs)
        exact om_same h2 (fun C _ _ _ _ g => om_g_imul C hd h1 g)
      case idiv =>
        have hl : len = 1 := by simpa [om_lok] using hlen
        subst hl
        obtain ⟨x, y, st', rfl, h1, h2⟩ := om_dv_i (show om_dv (pc + 1) L st h (fun a b => Int.tdiv a b) = some r from hs)
        exact om_same h2 (fun C _ _ _ _ g => om_g_idiv C hd h1 g)
      case irem =>
        have hl : len = 1 := by simpa [om_lok] using hlen
        subst hl
        obtain ⟨x, y, st', rfl, h1, h2⟩ := om_dv_i (show om_dv (pc + 1) L st h (fun a b => Int.tmod a b) = some r from hs)
        exact om_same h2 (fun C _ _ _ _ g => om_g_irem C hd h1 g)
      case ineg =>
        have hl : len = 1 := by simpa [om_lok] using hlen
        subst hl
        simp only [om_ex] at hs
        split at hs
        · split at hs
          · rename_i hz
            exact om_same (Option.some.inj hs).symm (fun C _ _ _ _ g => om_g_ineg C hd hz g)
          · cases hs
        · cases hs
      case iand =>
        have hl : len = 1 := by simpa [om_lok] using hlen
        subst hl
        simp only [om_ex] at hs
        split at hs
        · split at hs
          · rename_i hz
            subst hz
            exact om_same (Option.some.inj hs).symm (fun C _ _ _ _ g => om_g_iand C hd g)
          · cases hs
        · cases hs
      case i2c =>
        have hl : len = 1 := by simpa [om_lok] using hlen
        subst hl
        simp only [om_ex] at hs
        split at hs
        · exact om_same (Option.some.inj hs).symm (fun C _ _ _ _ g => om_g_i2c C hd g)
        · cases hs
      case dup =>
        have hl : len = 1 := by simpa [om_lok] using hlen
        subst hl
        simp only [om_ex] at hs
        split at hs
        · exact om_same (Option.some.inj hs).symm (fun C _ _ _ _ g => om_g_dup C hd g)
        · cases hs
      case ifCond cn off =>
        have hl : len = 3 := by simpa [om_lok] using hlen
        subst hl
        simp only [om_ex] at hs
        split at hs
        · rename_i x st' t ht
          exact om_same (Option.some.inj hs).symm (fun C _ _ _ _ g => om_g_ifc C hd ht g)
        · cases hs
      case if_icmp cn off =>
        have hl : len = 3 := by simpa [om_lok] using hlen
        subst hl
        simp only [om_ex] at hs
        split at hs
        · rename_i y x st' t ht
          exact om_same (Option.some.inj hs).symm (fun C _ _ _ _ g => om_g_icmp C hd ht g)
        · cases hs
      case goto off =>
        have hl : len = 3 := by simpa [om_lok] using hlen
        subst hl
        simp only [om_ex] at hs
        split at hs
        · rename_i t ht
          exact om_same (Option.some.inj hs).symm (fun C _ _ _ _ g => om_g_goto C hd ht g)
        · cases hs
      case tableswitch df lo hi offs =>
        simp only [om_ex] at hs
        split at hs
        · rename_i x st'
          split at hs
          · rename_i t ht
            exact om_same (Option.some.inj hs).symm (fun C _ _ _ _ g => om_g_tsw C hd ht g)
          · cases hs
        · cases hs
      case getfield i =>
        have hl : len = 3 := by simpa [om_lok] using hlen
        subst hl
        simp only [om_ex] at hs
        split at hs
        · rename_i a st' ci k hf
          split at hs
          · rename_i c' n vs ha
            split at hs
            · rename_i hq
              obtain ⟨rfl, hq⟩ := hq
              split at hs
              · rename_i v hv
                exact om_same (Option.some.inj hs).symm (fun C _ _ _ _ g => om_g_getf C hd hf ha hv g)
              · cases hs
            · cases hs
          · cases hs
        · cases hs
      case putfield i =>
        have hl : len = 3 := by simpa [om_lok] using hlen
        subst hl
        simp only [om_ex] at hs
        split at hs
        · rename_i v a st' ci k hf
          split at hs
          · rename_i c' n vs ha
            split at hs
            · rename_i hq
              obtain ⟨rfl, -, hk, hfit⟩ := hq
              exact om_like (Option.some.inj hs).symm (by simp) (om_sz_set ha) (fun C _ _ g => om_g_putf C hd hf ha hk hfit g)
            · cases hs
          · cases hs
        · cases hs
      case iaload =>
        have hl : len = 1 := by simpa [om_lok] using hlen
        subst hl
        simp only [om_ex] at hs
        split at hs
        · rename_i z st'
          split at hs
          · rename_i hz
            exact om_same (Option.some.inj hs).symm (fun C _ _ _ _ g => om_g_sld C hd hz g)
          · cases hs
        · obtain ⟨z, a, st', n, vs, rfl, ha, hz, h2⟩ := om_xld_i hs
          exact om_same h2 (fun C _ _ _ _ g => om_g_ial C hd ha hz g)
      case caload =>
        have hl : len = 1 := by simpa [om_lok] using hlen
        subst hl
        obtain ⟨z, a, st', n, vs, rfl, ha, hz, h2⟩ := om_xld_i (show om_xld (pc + 1) L st h 21 = some r from hs)
        exact om_same h2 (fun C _ _ _ _ g => om_g_cal C hd ha hz g)
      case baload =>
        have hl : len = 1 := by simpa [om_lok] using hlen
        subst hl
        obtain ⟨z, a, st', n, vs, rfl, ha, hz, h2⟩ := om_xld_i (show om_xld (pc + 1) L st h 22 = some r from hs)
        exact om_same h2 (fun C _ _ _ _ g => om_g_bal C hd ha hz g)
      case iastore =>
        have hl : len = 1 := by simpa [om_lok] using hlen
        subst hl
        obtain ⟨x, z, a, st', n, vs, rfl, ha, hz, hx, h2⟩ := om_xst_i (show om_xst (pc + 1) L st h 20 (fun _ => true) = some r from hs)
        exact om_like h2 rfl rfl (fun C _ _ g => om_g_ias C hd ha hz g)
      case castore =>
        have hl : len = 1 := by simpa [om_lok] using hlen
        subst hl
        obtain ⟨x, z, a, st', n, vs, rfl, ha, hz, hx, h2⟩ := om_xst_i (show om_xst (pc + 1) L st h 21 (fun x => decide (0 ≤ x) && decide (x ≤ 65535)) = some r from hs)
        exact om_like h2 rfl rfl (fun C _ _ g => om_g_cas C hd ha hz (by simpa using hx) g)
      case bastore =>
        have hl : len = 1 := by simpa [om_lok] using hlen
        subst hl
        obtain ⟨x, z, a, st', n, vs, rfl, ha, hz, hx, h2⟩ := om_xst_i (show om_xst (pc + 1) L st h 22 (fun x => decide (x = 0) || decide (x = 1)) = some r from hs)
        exact om_like h2 rfl rfl (fun C _ _ g => om_g_bas C hd ha hz (by simpa using hx) g)
      case aaload =>
        have hl : len = 1 := by simpa [om_lok] using hlen
        subst hl
        simp only [om_ex] at hs
        split at hs
        · rename_i z a st'
          split at hs
          · rename_i k n vs ha
            split at hs
            · rename_i hq
              obtain ⟨rfl, hz⟩ := hq
              split at hs
              · rename_i r' hv
                exact om_same (Option.some.inj hs).symm (fun C _ _ _ _ g => om_g_aal C hd ha hz hv g)
              · cases hs
            · cases hs
          · cases hs
        · cases hs
      case aastore =>
        have hl : len = 1 := by simpa [om_lok] using hlen
        subst hl
        simp only [om_ex] at hs
        split at hs
        · rename_i r' z a st'
          split at hs
          · rename_i k n vs kr nr vr ha hr
            split at hs
            · rename_i hq
              obtain ⟨rfl, hz1, hz2, hv, rfl⟩ := hq
              exact om_like (Option.some.inj hs).symm (by simp) (om_sz_set ha) (fun C _ _ g => om_g_aas C hd ha hr ⟨hz1, hz2⟩ hv g)
            · cases hs
          · cases hs
        · cases hs
      case arraylength =>
        have hl : len = 1 := by simpa [om_lok] using hlen
        subst hl
        simp only [om_ex] at hs
        split at hs
        · rename_i a st'
          split at hs
          · rename_i k n vs ha
            split at hs
            · rename_i hq
              exact om_same (Option.some.inj hs).symm (fun C _ _ _ _ g => om_g_alen C hd ha ⟨hq.1, hq.2.1⟩ hq.2.2 g)
            · cases hs
          · cases hs
        · split at hs
          · rename_i hz
            exact om_same (Option.some.inj hs).symm (fun C _ _ _ _ g => om_g_slen C hd hz g)
          · cases hs
        · cases hs
      case new i =>
        have hl : len = 3 := by simpa [om_lok] using hlen
        subst hl
        simp only [om_ex] at hs
        split at hs
        · rename_i ci hck
          split at hs
          · rename_i hci
            exact om_more (Option.some.inj hs).symm (fun C h1 h2 g => om_g_new C hd hck hci h1 h2 g)
          · cases hs
        · cases hs
      case newarray t =>
        have hl : len = 2 := by simpa [om_lok] using hlen
        subst hl
        simp only [om_ex] at hs
        split at hs
        · split at hs
          · rename_i hz
            exact om_more (Option.some.inj hs).symm (fun C h1 h2 g => om_g_nai C hd hz h1 h2 g)
          · cases hs
        · split at hs
          · rename_i hz
            exact om_more (Option.some.inj hs).symm (fun C h1 h2 g => om_g_nac C hd hz h1 h2 g)
          · cases hs
        · split at hs
          · rename_i hz
            exact om_more (Option.some.inj hs).symm (fun C h1 h2 g => om_g_nab C hd hz h1 h2 g)
          · cases hs
        · cases hs
      case anewarray i =>
        have hl : len = 3 := by simpa [om_lok] using hlen
        subst hl
        simp only [om_ex] at hs
        split at hs
        · rename_i z st' hck
          split at hs
          · rename_i hz
            exact om_more (Option.some.inj hs).symm (fun C h1 h2 g => om_g_naq C hd hck hz h1 h2 g)
          · cases hs
        · cases hs
      case invokevirtual i =>
        have hl : len = 3 := by simpa [om_lok] using hlen
        subst hl
        simp only [om_ex] at hs
        split at hs
        · rename_i ci hm
          split at hs
          · rename_i hrc
            obtain ⟨as, st', h1, h2, h3, h4, rfl⟩ := om_cal_i hs
            obtain ⟨a, n, vs, hr1, hr2⟩ := om_rcv_i hrc
            obtain ⟨yy, hmm⟩ := om_mls_at hm
            have h5 := List.all_eq_true.mp om_mok _ hmm
            simp only [Bool.and_eq_true, decide_eq_true_eq] at h5
            obtain ⟨h5, q1, q2, q3, q4, q5⟩ := h5
            exact ⟨rfl, rfl, q3, q4, q5, h1, h3, Or.inl ⟨i, a, n, vs, hd, om_wgi h5, q1, q2, h2, om_rcv_0 (st1 := st') h4 hr1 h2, hr2⟩⟩
          · cases hs
        · cases hs
      case invokestatic i =>
        have hl : len = 3 := by simpa [om_lok] using hlen
        subst hl
        simp only [om_ex] at hs
        split at hs
        · rename_i ci hm
          obtain ⟨as, st', h1, h2, h3, h4, rfl⟩ := om_cal_i hs
          obtain ⟨yy, hmm⟩ := om_mls_at hm
          have h5 := List.all_eq_true.mp om_mok _ hmm
          simp only [Bool.and_eq_true, decide_eq_true_eq] at h5
          obtain ⟨h5, q1, q3, q4, q5⟩ := h5
          exact ⟨rfl, rfl, q3, q4, q5, h1, h3, Or.inr (Or.inl ⟨i, hd, om_wgi h5, q1, h2⟩)⟩
        · rename_i w hm
          split at hs
          · rename_i y x st'
            split at hs
            · rename_i h8
              exact om_same (Option.some.inj hs).symm (fun C f1 f2 f3 f4 g => om_g_min C hd hm h8 f1 f2 f3 f4 g)
            · cases hs
          · cases hs
        · rename_i w hm
          split at hs
          · rename_i n dp a sp a0 st'
            split at hs
            · rename_i k m1 vs k0 m0 vs0 ha ha0
              split at hs
              · rename_i hq
                obtain ⟨rfl, rfl, q1, q2, q3, q4, q5, q6⟩ := hq
                exact om_like (Option.some.inj hs).symm rfl rfl (fun C f1 f2 g => om_g_acp C hd hm ha ha0 ⟨q1, q2, q3, q4, q5⟩ q6 f1 f2 g)
              · cases hs
            · cases hs
          · cases hs
        · cases hs
      case invokespecial i =>
        have hl : len = 3 := by simpa [om_lok] using hlen
        subst hl
        simp only [om_ex] at hs
        split at hs
        · rename_i ci hm
          split at hs
          · rename_i hrc
            obtain ⟨as, st', h1, h2, h3, h4, rfl⟩ := om_cal_i hs
            obtain ⟨a, n, vs, hr1, hr2⟩ := om_rcv_i hrc
            obtain ⟨yy, hmm⟩ := om_mls_at hm
            have h5 := List.all_eq_true.mp om_mok _ hmm
            simp only [Bool.and_eq_true, decide_eq_true_eq] at h5
            obtain ⟨h5, q1, q2, q3, q4, q5⟩ := h5
            exact ⟨rfl, rfl, q3, q4, q5, h1, h3, Or.inr (Or.inr ⟨i, a, hd, Or.inl (om_wgi h5), q1, q2, h2, om_rcv_0 (st1 := st') h4 hr1 h2⟩)⟩
          · cases hs
        · rename_i ci hm
          split at hs
          · rename_i hrc
            obtain ⟨as, st', h1, h2, h3, h4, rfl⟩ := om_cal_i hs
            obtain ⟨a, n, vs, hr1, hr2⟩ := om_rcv_i hrc
            obtain ⟨yy, hmm⟩ := om_mls_at hm
            have h5 := List.all_eq_true.mp om_mok _ hmm
            simp only [decide_eq_true_eq] at h5
            obtain ⟨g1, g2, g3, q1, q2, q3, q4, q5⟩ := h5
            exact ⟨rfl, rfl, q3, q4, q5, h1, h3, Or.inr (Or.inr ⟨i, a, hd, Or.inr ⟨g1, g2, g3⟩, q1, q2, h2, om_rcv_0 (st1 := st') h4 hr1 h2⟩)⟩
          · cases hs
        · rename_i w hm
          split at hs
          · rename_i a st'
            split at hs
            · rename_i h8
              exact om_same (Option.some.inj hs).symm (fun C f1 f2 _ _ g => om_g_oin C hd hm h8 f1 f2 g)
            · cases hs
          · cases hs
        · cases hs
      case ireturn =>
        have hl : len = 1 := by simpa [om_lok] using hlen
        subst hl
        simp only [om_ex] at hs
        split at hs
        · rename_i z
          split at hs
          · rename_i hq
            obtain rfl := Option.some.inj hs
            exact ⟨rfl, hq, Or.inr (Or.inl ⟨z, rfl, rfl, hd⟩)⟩
          · cases hs
        · cases hs
      case areturn =>
        have hl : len = 1 := by simpa [om_lok] using hlen
        subst hl
        simp only [om_ex] at hs
        split at hs
        · rename_i z
          split at hs
          · rename_i hq
            obtain rfl := Option.some.inj hs
            exact ⟨rfl, hq, Or.inr (Or.inr ⟨z, rfl, rfl, hd⟩)⟩
          · cases hs
        · cases hs
      case return_ =>
        have hl : len = 1 := by simpa [om_lok] using hlen
        subst hl
        simp only [om_ex] at hs
        split at hs
        · split at hs
          · rename_i hq
            obtain rfl := Option.some.inj hs
            exact ⟨rfl, hq, Or.inl ⟨rfl, rfl, hd⟩⟩
          · cases hs
        · cases hs
    · cases hs
end om_ivs
