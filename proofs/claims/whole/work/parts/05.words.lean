/-! the words that the links of the program stand on -/
def om_wg : List Cond := lw_tbl.filter goodWord
def om_at (i : Nat) (w : Cond) : Bool := decide (lw_tbl[i]? = some w) && goodWord w
theorem om_wgi {i : Nat} {w : Cond} (h : om_at i w = true) : w ∈ om_wg := by
  simp only [om_at, Bool.and_eq_true, decide_eq_true_eq] at h
  exact List.mem_filter.mpr ⟨List.mem_of_getElem? h.1, h.2⟩
theorem om_wg_good : ∀ w ∈ om_wg, w ∈ lw_tbl ∧ goodWord w = true := fun w h => List.mem_filter.mp h
def om_y (mi : Nat) : MethodName := om_ys.getD mi ⟨"", "", ""⟩
def om_by (mi : Nat) : ByteArray := om_bys.getD mi ⟨#[]⟩
def om_rt (mi : Nat) : Option FieldType := om_rts.getD mi none
def om_ty (ci : Nat) : Nat → FieldType := ([om_y0, om_y1, om_y2, om_y3, om_y4, om_y5, om_y6, om_y7, om_y8, om_y9] : List (Nat → FieldType)).getD ci (fun _ => .int)
def om_fck : Bool := om_fls.all (fun e => om_at e.2.2.2.2 (Cond.fieldLink (om_cn e.1) e.2.1 (om_fT e.2.2.1 e.2.2.2.1).1 (om_fT e.2.2.1 e.2.2.2.1).2.1 (om_fT e.2.2.1 e.2.2.2.1).2.2.1) && (decide (e.2.2.2.1 < om_fN e.2.2.1) && decide (e.2.2.1 < 10)))
theorem om_fok : om_fck = true := by decide +kernel
def om_cck : Bool := om_cls.all (fun e => om_at e.2.2.2 (Cond.classLink (om_cn e.1) e.2.1 (om_cn e.2.2.1)))
theorem om_cok : om_cck = true := by decide +kernel
def om_mck : Bool := om_mls.all (fun e => match e.2.2.1 with
  | 6 => om_at e.2.2.2.2 (Cond.methodLink (om_cn e.1) e.2.1 Lib.Math.min.name)
  | 5 => om_at e.2.2.2.2 (Cond.methodLink (om_cn e.1) e.2.1 objectInit)
  | 4 => om_at e.2.2.2.2 (Cond.methodLink (om_cn e.1) e.2.1 arraycopyName)
  | 3 => decide (e.1 = 8 ∧ e.2.1 = 17 ∧ om_y e.2.2.2.1 = ⟨"OreSolver$Output", "<init>", "()V"⟩ ∧ om_st e.2.2.2.1 = false ∧ om_in e.2.2.2.1 = true ∧ 0 < e.2.2.2.1 ∧ e.2.2.2.1 < 160 ∧ e.2.2.2.1 ≠ 33)
  | 2 => om_at e.2.2.2.2 (Cond.methodLink (om_cn e.1) e.2.1 (om_y e.2.2.2.1)) && decide (om_st e.2.2.2.1 = false ∧ om_in e.2.2.2.1 = true ∧ 0 < e.2.2.2.1 ∧ e.2.2.2.1 < 160 ∧ e.2.2.2.1 ≠ 33)
  | 1 => om_at e.2.2.2.2 (Cond.methodLink (om_cn e.1) e.2.1 (om_y e.2.2.2.1)) && decide (om_st e.2.2.2.1 = true ∧ 0 < e.2.2.2.1 ∧ e.2.2.2.1 < 160 ∧ e.2.2.2.1 ≠ 33)
  | 0 => om_at e.2.2.2.2 (Cond.methodLink (om_cn e.1) e.2.1 (om_y e.2.2.2.1)) && decide (om_st e.2.2.2.1 = false ∧ om_in e.2.2.2.1 = false ∧ 0 < e.2.2.2.1 ∧ e.2.2.2.1 < 160 ∧ e.2.2.2.1 ≠ 33)
  | _ => false)
theorem om_mok : om_mck = true := by decide +kernel
/-- what holds of each method -/
def om_ick (mi : Nat) : Bool := match om_mix.getD mi (0, 0, 0, 0) with
  | (_, b, s, n) => (if om_st mi then om_at b (Cond.static (om_y mi)) else om_at b (Cond.instanceMethod (om_y mi))) && (om_st mi || om_in mi || om_at s (Cond.selects (om_cn (om_ow mi)) (om_y mi) (om_y mi))) && om_at n (Cond.initialized (om_cn (om_ow mi)))
    && decide ((om_y mi).cls = om_cn (om_ow mi)) && plainName (om_y mi).cls && decide ((om_y mi).cls ≠ "java/lang/invoke/MethodHandle") && decide ((om_y mi).cls ≠ "java/lang/invoke/VarHandle") && decide ((parseMethodDescriptor (om_y mi).desc).map (fun d => d.parameters.length) = some (om_np mi))
    && (!om_in mi || decide ((om_y mi).name = "<init>")) && decide (om_ml mi ≤ 13) && decide (om_np mi + (if om_st mi then 0 else 1) ≤ om_ml mi)
theorem om_ic1 : lw_tbl[(om_mix.getD 1 (0, 0, 0, 0)).1]? = some (Cond.code (om_y 1) (om_by 1) (om_ml 1) (om_rt 1)) := by decide +kernel
theorem om_id1 : om_ick 1 = true := by decide +kernel
theorem om_ic2 : lw_tbl[(om_mix.getD 2 (0, 0, 0, 0)).1]? = some (Cond.code (om_y 2) (om_by 2) (om_ml 2) (om_rt 2)) := by decide +kernel
theorem om_id2 : om_ick 2 = true := by decide +kernel
theorem om_ic3 : lw_tbl[(om_mix.getD 3 (0, 0, 0, 0)).1]? = some (Cond.code (om_y 3) (om_by 3) (om_ml 3) (om_rt 3)) := by decide +kernel
theorem om_id3 : om_ick 3 = true := by decide +kernel
theorem om_ic4 : lw_tbl[(om_mix.getD 4 (0, 0, 0, 0)).1]? = some (Cond.code (om_y 4) (om_by 4) (om_ml 4) (om_rt 4)) := by decide +kernel
theorem om_id4 : om_ick 4 = true := by decide +kernel
theorem om_ic5 : lw_tbl[(om_mix.getD 5 (0, 0, 0, 0)).1]? = some (Cond.code (om_y 5) (om_by 5) (om_ml 5) (om_rt 5)) := by decide +kernel
theorem om_id5 : om_ick 5 = true := by decide +kernel
theorem om_ic6 : lw_tbl[(om_mix.getD 6 (0, 0, 0, 0)).1]? = some (Cond.code (om_y 6) (om_by 6) (om_ml 6) (om_rt 6)) := by decide +kernel
theorem om_id6 : om_ick 6 = true := by decide +kernel
theorem om_ic7 : lw_tbl[(om_mix.getD 7 (0, 0, 0, 0)).1]? = some (Cond.code (om_y 7) (om_by 7) (om_ml 7) (om_rt 7)) := by decide +kernel
theorem om_id7 : om_ick 7 = true := by decide +kernel
theorem om_ic8 : lw_tbl[(om_mix.getD 8 (0, 0, 0, 0)).1]? = some (Cond.code (om_y 8) (om_by 8) (om_ml 8) (om_rt 8)) := by decide +kernel
theorem om_id8 : om_ick 8 = true := by decide +kernel
theorem om_ic9 : lw_tbl[(om_mix.getD 9 (0, 0, 0, 0)).1]? = some (Cond.code (om_y 9) (om_by 9) (om_ml 9) (om_rt 9)) := by decide +kernel
theorem om_id9 : om_ick 9 = true := by decide +kernel
theorem om_ic10 : lw_tbl[(om_mix.getD 10 (0, 0, 0, 0)).1]? = some (Cond.code (om_y 10) (om_by 10) (om_ml 10) (om_rt 10)) := by decide +kernel
theorem om_id10 : om_ick 10 = true := by decide +kernel
theorem om_ic11 : lw_tbl[(om_mix.getD 11 (0, 0, 0, 0)).1]? = some (Cond.code (om_y 11) (om_by 11) (om_ml 11) (om_rt 11)) := by decide +kernel
theorem om_id11 : om_ick 11 = true := by decide +kernel
theorem om_ic12 : lw_tbl[(om_mix.getD 12 (0, 0, 0, 0)).1]? = some (Cond.code (om_y 12) (om_by 12) (om_ml 12) (om_rt 12)) := by decide +kernel
theorem om_id12 : om_ick 12 = true := by decide +kernel
theorem om_ic13 : lw_tbl[(om_mix.getD 13 (0, 0, 0, 0)).1]? = some (Cond.code (om_y 13) (om_by 13) (om_ml 13) (om_rt 13)) := by decide +kernel
theorem om_id13 : om_ick 13 = true := by decide +kernel
theorem om_ic14 : lw_tbl[(om_mix.getD 14 (0, 0, 0, 0)).1]? = some (Cond.code (om_y 14) (om_by 14) (om_ml 14) (om_rt 14)) := by decide +kernel
theorem om_id14 : om_ick 14 = true := by decide +kernel
theorem om_ic15 : lw_tbl[(om_mix.getD 15 (0, 0, 0, 0)).1]? = some (Cond.code (om_y 15) (om_by 15) (om_ml 15) (om_rt 15)) := by decide +kernel
theorem om_id15 : om_ick 15 = true := by decide +kernel
theorem om_ic16 : lw_tbl[(om_mix.getD 16 (0, 0, 0, 0)).1]? = some (Cond.code (om_y 16) (om_by 16) (om_ml 16) (om_rt 16)) := by decide +kernel
theorem om_id16 : om_ick 16 = true := by decide +kernel
theorem om_ic17 : lw_tbl[(om_mix.getD 17 (0, 0, 0, 0)).1]? = some (Cond.code (om_y 17) (om_by 17) (om_ml 17) (om_rt 17)) := by decide +kernel
theorem om_id17 : om_ick 17 = true := by decide +kernel
theorem om_ic18 : lw_tbl[(om_mix.getD 18 (0, 0, 0, 0)).1]? = some (Cond.code (om_y 18) (om_by 18) (om_ml 18) (om_rt 18)) := by decide +kernel
theorem om_id18 : om_ick 18 = true := by decide +kernel
theorem om_ic19 : lw_tbl[(om_mix.getD 19 (0, 0, 0, 0)).1]? = some (Cond.code (om_y 19) (om_by 19) (om_ml 19) (om_rt 19)) := by decide +kernel
theorem om_id19 : om_ick 19 = true := by decide +kernel
theorem om_ic20 : lw_tbl[(om_mix.getD 20 (0, 0, 0, 0)).1]? = some (Cond.code (om_y 20) (om_by 20) (om_ml 20) (om_rt 20)) := by decide +kernel
theorem om_id20 : om_ick 20 = true := by decide +kernel
theorem om_ic21 : lw_tbl[(om_mix.getD 21 (0, 0, 0, 0)).1]? = some (Cond.code (om_y 21) (om_by 21) (om_ml 21) (om_rt 21)) := by decide +kernel
theorem om_id21 : om_ick 21 = true := by decide +kernel
theorem om_ic22 : lw_tbl[(om_mix.getD 22 (0, 0, 0, 0)).1]? = some (Cond.code (om_y 22) (om_by 22) (om_ml 22) (om_rt 22)) := by decide +kernel
theorem om_id22 : om_ick 22 = true := by decide +kernel
theorem om_ic23 : lw_tbl[(om_mix.getD 23 (0, 0, 0, 0)).1]? = some (Cond.code (om_y 23) (om_by 23) (om_ml 23) (om_rt 23)) := by decide +kernel
theorem om_id23 : om_ick 23 = true := by decide +kernel
theorem om_ic24 : lw_tbl[(om_mix.getD 24 (0, 0, 0, 0)).1]? = some (Cond.code (om_y 24) (om_by 24) (om_ml 24) (om_rt 24)) := by decide +kernel
theorem om_id24 : om_ick 24 = true := by decide +kernel
theorem om_ic25 : lw_tbl[(om_mix.getD 25 (0, 0, 0, 0)).1]? = some (Cond.code (om_y 25) (om_by 25) (om_ml 25) (om_rt 25)) := by decide +kernel
theorem om_id25 : om_ick 25 = true := by decide +kernel
theorem om_ic26 : lw_tbl[(om_mix.getD 26 (0, 0, 0, 0)).1]? = some (Cond.code (om_y 26) (om_by 26) (om_ml 26) (om_rt 26)) := by decide +kernel
theorem om_id26 : om_ick 26 = true := by decide +kernel
theorem om_ic27 : lw_tbl[(om_mix.getD 27 (0, 0, 0, 0)).1]? = some (Cond.code (om_y 27) (om_by 27) (om_ml 27) (om_rt 27)) := by decide +kernel
theorem om_id27 : om_ick 27 = true := by decide +kernel
theorem om_ic28 : lw_tbl[(om_mix.getD 28 (0, 0, 0, 0)).1]? = some (Cond.code (om_y 28) (om_by 28) (om_ml 28) (om_rt 28)) := by decide +kernel
theorem om_id28 : om_ick 28 = true := by decide +kernel
theorem om_ic29 : lw_tbl[(om_mix.getD 29 (0, 0, 0, 0)).1]? = some (Cond.code (om_y 29) (om_by 29) (om_ml 29) (om_rt 29)) := by decide +kernel
theorem om_id29 : om_ick 29 = true := by decide +kernel
theorem om_ic30 : lw_tbl[(om_mix.getD 30 (0, 0, 0, 0)).1]? = some (Cond.code (om_y 30) (om_by 30) (om_ml 30) (om_rt 30)) := by decide +kernel
theorem om_id30 : om_ick 30 = true := by decide +kernel
theorem om_ic31 : lw_tbl[(om_mix.getD 31 (0, 0, 0, 0)).1]? = some (Cond.code (om_y 31) (om_by 31) (om_ml 31) (om_rt 31)) := by decide +kernel
theorem om_id31 : om_ick 31 = true := by decide +kernel
theorem om_ic32 : lw_tbl[(om_mix.getD 32 (0, 0, 0, 0)).1]? = some (Cond.code (om_y 32) (om_by 32) (om_ml 32) (om_rt 32)) := by decide +kernel
theorem om_id32 : om_ick 32 = true := by decide +kernel
theorem om_ic34 : lw_tbl[(om_mix.getD 34 (0, 0, 0, 0)).1]? = some (Cond.code (om_y 34) (om_by 34) (om_ml 34) (om_rt 34)) := by decide +kernel
theorem om_id34 : om_ick 34 = true := by decide +kernel
theorem om_ic35 : lw_tbl[(om_mix.getD 35 (0, 0, 0, 0)).1]? = some (Cond.code (om_y 35) (om_by 35) (om_ml 35) (om_rt 35)) := by decide +kernel
theorem om_id35 : om_ick 35 = true := by decide +kernel
theorem om_ic36 : lw_tbl[(om_mix.getD 36 (0, 0, 0, 0)).1]? = some (Cond.code (om_y 36) (om_by 36) (om_ml 36) (om_rt 36)) := by decide +kernel
theorem om_id36 : om_ick 36 = true := by decide +kernel
theorem om_ic37 : lw_tbl[(om_mix.getD 37 (0, 0, 0, 0)).1]? = some (Cond.code (om_y 37) (om_by 37) (om_ml 37) (om_rt 37)) := by decide +kernel
theorem om_id37 : om_ick 37 = true := by decide +kernel
theorem om_ic38 : lw_tbl[(om_mix.getD 38 (0, 0, 0, 0)).1]? = some (Cond.code (om_y 38) (om_by 38) (om_ml 38) (om_rt 38)) := by decide +kernel
theorem om_id38 : om_ick 38 = true := by decide +kernel
theorem om_ic39 : lw_tbl[(om_mix.getD 39 (0, 0, 0, 0)).1]? = some (Cond.code (om_y 39) (om_by 39) (om_ml 39) (om_rt 39)) := by decide +kernel
theorem om_id39 : om_ick 39 = true := by decide +kernel
theorem om_ic40 : lw_tbl[(om_mix.getD 40 (0, 0, 0, 0)).1]? = some (Cond.code (om_y 40) (om_by 40) (om_ml 40) (om_rt 40)) := by decide +kernel
theorem om_id40 : om_ick 40 = true := by decide +kernel
theorem om_ic41 : lw_tbl[(om_mix.getD 41 (0, 0, 0, 0)).1]? = some (Cond.code (om_y 41) (om_by 41) (om_ml 41) (om_rt 41)) := by decide +kernel
theorem om_id41 : om_ick 41 = true := by decide +kernel
theorem om_ic42 : lw_tbl[(om_mix.getD 42 (0, 0, 0, 0)).1]? = some (Cond.code (om_y 42) (om_by 42) (om_ml 42) (om_rt 42)) := by decide +kernel
theorem om_id42 : om_ick 42 = true := by decide +kernel
theorem om_ic43 : lw_tbl[(om_mix.getD 43 (0, 0, 0, 0)).1]? = some (Cond.code (om_y 43) (om_by 43) (om_ml 43) (om_rt 43)) := by decide +kernel
theorem om_id43 : om_ick 43 = true := by decide +kernel
theorem om_ic44 : lw_tbl[(om_mix.getD 44 (0, 0, 0, 0)).1]? = some (Cond.code (om_y 44) (om_by 44) (om_ml 44) (om_rt 44)) := by decide +kernel
theorem om_id44 : om_ick 44 = true := by decide +kernel
theorem om_ic45 : lw_tbl[(om_mix.getD 45 (0, 0, 0, 0)).1]? = some (Cond.code (om_y 45) (om_by 45) (om_ml 45) (om_rt 45)) := by decide +kernel
theorem om_id45 : om_ick 45 = true := by decide +kernel
theorem om_ic46 : lw_tbl[(om_mix.getD 46 (0, 0, 0, 0)).1]? = some (Cond.code (om_y 46) (om_by 46) (om_ml 46) (om_rt 46)) := by decide +kernel
theorem om_id46 : om_ick 46 = true := by decide +kernel
theorem om_ic47 : lw_tbl[(om_mix.getD 47 (0, 0, 0, 0)).1]? = some (Cond.code (om_y 47) (om_by 47) (om_ml 47) (om_rt 47)) := by decide +kernel
theorem om_id47 : om_ick 47 = true := by decide +kernel
theorem om_ic48 : lw_tbl[(om_mix.getD 48 (0, 0, 0, 0)).1]? = some (Cond.code (om_y 48) (om_by 48) (om_ml 48) (om_rt 48)) := by decide +kernel
theorem om_id48 : om_ick 48 = true := by decide +kernel
theorem om_ic49 : lw_tbl[(om_mix.getD 49 (0, 0, 0, 0)).1]? = some (Cond.code (om_y 49) (om_by 49) (om_ml 49) (om_rt 49)) := by decide +kernel
theorem om_id49 : om_ick 49 = true := by decide +kernel
theorem om_ic50 : lw_tbl[(om_mix.getD 50 (0, 0, 0, 0)).1]? = some (Cond.code (om_y 50) (om_by 50) (om_ml 50) (om_rt 50)) := by decide +kernel
theorem om_id50 : om_ick 50 = true := by decide +kernel
theorem om_ic51 : lw_tbl[(om_mix.getD 51 (0, 0, 0, 0)).1]? = some (Cond.code (om_y 51) (om_by 51) (om_ml 51) (om_rt 51)) := by decide +kernel
theorem om_id51 : om_ick 51 = true := by decide +kernel
theorem om_ic52 : lw_tbl[(om_mix.getD 52 (0, 0, 0, 0)).1]? = some (Cond.code (om_y 52) (om_by 52) (om_ml 52) (om_rt 52)) := by decide +kernel
theorem om_id52 : om_ick 52 = true := by decide +kernel
theorem om_ic53 : lw_tbl[(om_mix.getD 53 (0, 0, 0, 0)).1]? = some (Cond.code (om_y 53) (om_by 53) (om_ml 53) (om_rt 53)) := by decide +kernel
theorem om_id53 : om_ick 53 = true := by decide +kernel
theorem om_ic54 : lw_tbl[(om_mix.getD 54 (0, 0, 0, 0)).1]? = some (Cond.code (om_y 54) (om_by 54) (om_ml 54) (om_rt 54)) := by decide +kernel
theorem om_id54 : om_ick 54 = true := by decide +kernel
theorem om_ic55 : lw_tbl[(om_mix.getD 55 (0, 0, 0, 0)).1]? = some (Cond.code (om_y 55) (om_by 55) (om_ml 55) (om_rt 55)) := by decide +kernel
theorem om_id55 : om_ick 55 = true := by decide +kernel
theorem om_ic56 : lw_tbl[(om_mix.getD 56 (0, 0, 0, 0)).1]? = some (Cond.code (om_y 56) (om_by 56) (om_ml 56) (om_rt 56)) := by decide +kernel
theorem om_id56 : om_ick 56 = true := by decide +kernel
theorem om_ic57 : lw_tbl[(om_mix.getD 57 (0, 0, 0, 0)).1]? = some (Cond.code (om_y 57) (om_by 57) (om_ml 57) (om_rt 57)) := by decide +kernel
theorem om_id57 : om_ick 57 = true := by decide +kernel
theorem om_ic58 : lw_tbl[(om_mix.getD 58 (0, 0, 0, 0)).1]? = some (Cond.code (om_y 58) (om_by 58) (om_ml 58) (om_rt 58)) := by decide +kernel
theorem om_id58 : om_ick 58 = true := by decide +kernel
theorem om_ic59 : lw_tbl[(om_mix.getD 59 (0, 0, 0, 0)).1]? = some (Cond.code (om_y 59) (om_by 59) (om_ml 59) (om_rt 59)) := by decide +kernel
theorem om_id59 : om_ick 59 = true := by decide +kernel
theorem om_ic60 : lw_tbl[(om_mix.getD 60 (0, 0, 0, 0)).1]? = some (Cond.code (om_y 60) (om_by 60) (om_ml 60) (om_rt 60)) := by decide +kernel
theorem om_id60 : om_ick 60 = true := by decide +kernel
theorem om_ic61 : lw_tbl[(om_mix.getD 61 (0, 0, 0, 0)).1]? = some (Cond.code (om_y 61) (om_by 61) (om_ml 61) (om_rt 61)) := by decide +kernel
theorem om_id61 : om_ick 61 = true := by decide +kernel
theorem om_ic62 : lw_tbl[(om_mix.getD 62 (0, 0, 0, 0)).1]? = some (Cond.code (om_y 62) (om_by 62) (om_ml 62) (om_rt 62)) := by decide +kernel
theorem om_id62 : om_ick 62 = true := by decide +kernel
theorem om_ic63 : lw_tbl[(om_mix.getD 63 (0, 0, 0, 0)).1]? = some (Cond.code (om_y 63) (om_by 63) (om_ml 63) (om_rt 63)) := by decide +kernel
theorem om_id63 : om_ick 63 = true := by decide +kernel
theorem om_ic64 : lw_tbl[(om_mix.getD 64 (0, 0, 0, 0)).1]? = some (Cond.code (om_y 64) (om_by 64) (om_ml 64) (om_rt 64)) := by decide +kernel
theorem om_id64 : om_ick 64 = true := by decide +kernel
theorem om_ic65 : lw_tbl[(om_mix.getD 65 (0, 0, 0, 0)).1]? = some (Cond.code (om_y 65) (om_by 65) (om_ml 65) (om_rt 65)) := by decide +kernel
theorem om_id65 : om_ick 65 = true := by decide +kernel
theorem om_ic66 : lw_tbl[(om_mix.getD 66 (0, 0, 0, 0)).1]? = some (Cond.code (om_y 66) (om_by 66) (om_ml 66) (om_rt 66)) := by decide +kernel
theorem om_id66 : om_ick 66 = true := by decide +kernel
theorem om_ic67 : lw_tbl[(om_mix.getD 67 (0, 0, 0, 0)).1]? = some (Cond.code (om_y 67) (om_by 67) (om_ml 67) (om_rt 67)) := by decide +kernel
theorem om_id67 : om_ick 67 = true := by decide +kernel
theorem om_ic68 : lw_tbl[(om_mix.getD 68 (0, 0, 0, 0)).1]? = some (Cond.code (om_y 68) (om_by 68) (om_ml 68) (om_rt 68)) := by decide +kernel
theorem om_id68 : om_ick 68 = true := by decide +kernel
theorem om_ic69 : lw_tbl[(om_mix.getD 69 (0, 0, 0, 0)).1]? = some (Cond.code (om_y 69) (om_by 69) (om_ml 69) (om_rt 69)) := by decide +kernel
theorem om_id69 : om_ick 69 = true := by decide +kernel
theorem om_ic70 : lw_tbl[(om_mix.getD 70 (0, 0, 0, 0)).1]? = some (Cond.code (om_y 70) (om_by 70) (om_ml 70) (om_rt 70)) := by decide +kernel
theorem om_id70 : om_ick 70 = true := by decide +kernel
theorem om_ic71 : lw_tbl[(om_mix.getD 71 (0, 0, 0, 0)).1]? = some (Cond.code (om_y 71) (om_by 71) (om_ml 71) (om_rt 71)) := by decide +kernel
theorem om_id71 : om_ick 71 = true := by decide +kernel
theorem om_ic72 : lw_tbl[(om_mix.getD 72 (0, 0, 0, 0)).1]? = some (Cond.code (om_y 72) (om_by 72) (om_ml 72) (om_rt 72)) := by decide +kernel
theorem om_id72 : om_ick 72 = true := by decide +kernel
theorem om_ic73 : lw_tbl[(om_mix.getD 73 (0, 0, 0, 0)).1]? = some (Cond.code (om_y 73) (om_by 73) (om_ml 73) (om_rt 73)) := by decide +kernel
theorem om_id73 : om_ick 73 = true := by decide +kernel
theorem om_ic74 : lw_tbl[(om_mix.getD 74 (0, 0, 0, 0)).1]? = some (Cond.code (om_y 74) (om_by 74) (om_ml 74) (om_rt 74)) := by decide +kernel
theorem om_id74 : om_ick 74 = true := by decide +kernel
theorem om_ic75 : lw_tbl[(om_mix.getD 75 (0, 0, 0, 0)).1]? = some (Cond.code (om_y 75) (om_by 75) (om_ml 75) (om_rt 75)) := by decide +kernel
theorem om_id75 : om_ick 75 = true := by decide +kernel
theorem om_ic76 : lw_tbl[(om_mix.getD 76 (0, 0, 0, 0)).1]? = some (Cond.code (om_y 76) (om_by 76) (om_ml 76) (om_rt 76)) := by decide +kernel
theorem om_id76 : om_ick 76 = true := by decide +kernel
theorem om_ic77 : lw_tbl[(om_mix.getD 77 (0, 0, 0, 0)).1]? = some (Cond.code (om_y 77) (om_by 77) (om_ml 77) (om_rt 77)) := by decide +kernel
theorem om_id77 : om_ick 77 = true := by decide +kernel
theorem om_ic78 : lw_tbl[(om_mix.getD 78 (0, 0, 0, 0)).1]? = some (Cond.code (om_y 78) (om_by 78) (om_ml 78) (om_rt 78)) := by decide +kernel
theorem om_id78 : om_ick 78 = true := by decide +kernel
theorem om_ic79 : lw_tbl[(om_mix.getD 79 (0, 0, 0, 0)).1]? = some (Cond.code (om_y 79) (om_by 79) (om_ml 79) (om_rt 79)) := by decide +kernel
theorem om_id79 : om_ick 79 = true := by decide +kernel
theorem om_ic80 : lw_tbl[(om_mix.getD 80 (0, 0, 0, 0)).1]? = some (Cond.code (om_y 80) (om_by 80) (om_ml 80) (om_rt 80)) := by decide +kernel
theorem om_id80 : om_ick 80 = true := by decide +kernel
theorem om_ic81 : lw_tbl[(om_mix.getD 81 (0, 0, 0, 0)).1]? = some (Cond.code (om_y 81) (om_by 81) (om_ml 81) (om_rt 81)) := by decide +kernel
theorem om_id81 : om_ick 81 = true := by decide +kernel
theorem om_ic82 : lw_tbl[(om_mix.getD 82 (0, 0, 0, 0)).1]? = some (Cond.code (om_y 82) (om_by 82) (om_ml 82) (om_rt 82)) := by decide +kernel
theorem om_id82 : om_ick 82 = true := by decide +kernel
theorem om_ic83 : lw_tbl[(om_mix.getD 83 (0, 0, 0, 0)).1]? = some (Cond.code (om_y 83) (om_by 83) (om_ml 83) (om_rt 83)) := by decide +kernel
theorem om_id83 : om_ick 83 = true := by decide +kernel
theorem om_ic84 : lw_tbl[(om_mix.getD 84 (0, 0, 0, 0)).1]? = some (Cond.code (om_y 84) (om_by 84) (om_ml 84) (om_rt 84)) := by decide +kernel
theorem om_id84 : om_ick 84 = true := by decide +kernel
theorem om_ic85 : lw_tbl[(om_mix.getD 85 (0, 0, 0, 0)).1]? = some (Cond.code (om_y 85) (om_by 85) (om_ml 85) (om_rt 85)) := by decide +kernel
theorem om_id85 : om_ick 85 = true := by decide +kernel
theorem om_ic86 : lw_tbl[(om_mix.getD 86 (0, 0, 0, 0)).1]? = some (Cond.code (om_y 86) (om_by 86) (om_ml 86) (om_rt 86)) := by decide +kernel
theorem om_id86 : om_ick 86 = true := by decide +kernel
theorem om_ic87 : lw_tbl[(om_mix.getD 87 (0, 0, 0, 0)).1]? = some (Cond.code (om_y 87) (om_by 87) (om_ml 87) (om_rt 87)) := by decide +kernel
theorem om_id87 : om_ick 87 = true := by decide +kernel
theorem om_ic88 : lw_tbl[(om_mix.getD 88 (0, 0, 0, 0)).1]? = some (Cond.code (om_y 88) (om_by 88) (om_ml 88) (om_rt 88)) := by decide +kernel
theorem om_id88 : om_ick 88 = true := by decide +kernel
theorem om_ic89 : lw_tbl[(om_mix.getD 89 (0, 0, 0, 0)).1]? = some (Cond.code (om_y 89) (om_by 89) (om_ml 89) (om_rt 89)) := by decide +kernel
theorem om_id89 : om_ick 89 = true := by decide +kernel
theorem om_ic90 : lw_tbl[(om_mix.getD 90 (0, 0, 0, 0)).1]? = some (Cond.code (om_y 90) (om_by 90) (om_ml 90) (om_rt 90)) := by decide +kernel
theorem om_id90 : om_ick 90 = true := by decide +kernel
theorem om_ic91 : lw_tbl[(om_mix.getD 91 (0, 0, 0, 0)).1]? = some (Cond.code (om_y 91) (om_by 91) (om_ml 91) (om_rt 91)) := by decide +kernel
theorem om_id91 : om_ick 91 = true := by decide +kernel
theorem om_ic92 : lw_tbl[(om_mix.getD 92 (0, 0, 0, 0)).1]? = some (Cond.code (om_y 92) (om_by 92) (om_ml 92) (om_rt 92)) := by decide +kernel
theorem om_id92 : om_ick 92 = true := by decide +kernel
theorem om_ic93 : lw_tbl[(om_mix.getD 93 (0, 0, 0, 0)).1]? = some (Cond.code (om_y 93) (om_by 93) (om_ml 93) (om_rt 93)) := by decide +kernel
theorem om_id93 : om_ick 93 = true := by decide +kernel
theorem om_ic94 : lw_tbl[(om_mix.getD 94 (0, 0, 0, 0)).1]? = some (Cond.code (om_y 94) (om_by 94) (om_ml 94) (om_rt 94)) := by decide +kernel
theorem om_id94 : om_ick 94 = true := by decide +kernel
theorem om_ic95 : lw_tbl[(om_mix.getD 95 (0, 0, 0, 0)).1]? = some (Cond.code (om_y 95) (om_by 95) (om_ml 95) (om_rt 95)) := by decide +kernel
theorem om_id95 : om_ick 95 = true := by decide +kernel
theorem om_ic96 : lw_tbl[(om_mix.getD 96 (0, 0, 0, 0)).1]? = some (Cond.code (om_y 96) (om_by 96) (om_ml 96) (om_rt 96)) := by decide +kernel
theorem om_id96 : om_ick 96 = true := by decide +kernel
theorem om_ic97 : lw_tbl[(om_mix.getD 97 (0, 0, 0, 0)).1]? = some (Cond.code (om_y 97) (om_by 97) (om_ml 97) (om_rt 97)) := by decide +kernel
theorem om_id97 : om_ick 97 = true := by decide +kernel
theorem om_ic98 : lw_tbl[(om_mix.getD 98 (0, 0, 0, 0)).1]? = some (Cond.code (om_y 98) (om_by 98) (om_ml 98) (om_rt 98)) := by decide +kernel
theorem om_id98 : om_ick 98 = true := by decide +kernel
theorem om_ic99 : lw_tbl[(om_mix.getD 99 (0, 0, 0, 0)).1]? = some (Cond.code (om_y 99) (om_by 99) (om_ml 99) (om_rt 99)) := by decide +kernel
theorem om_id99 : om_ick 99 = true := by decide +kernel
theorem om_ic100 : lw_tbl[(om_mix.getD 100 (0, 0, 0, 0)).1]? = some (Cond.code (om_y 100) (om_by 100) (om_ml 100) (om_rt 100)) := by decide +kernel
theorem om_id100 : om_ick 100 = true := by decide +kernel
theorem om_ic101 : lw_tbl[(om_mix.getD 101 (0, 0, 0, 0)).1]? = some (Cond.code (om_y 101) (om_by 101) (om_ml 101) (om_rt 101)) := by decide +kernel
theorem om_id101 : om_ick 101 = true := by decide +kernel
theorem om_ic102 : lw_tbl[(om_mix.getD 102 (0, 0, 0, 0)).1]? = some (Cond.code (om_y 102) (om_by 102) (om_ml 102) (om_rt 102)) := by decide +kernel
theorem om_id102 : om_ick 102 = true := by decide +kernel
theorem om_ic103 : lw_tbl[(om_mix.getD 103 (0, 0, 0, 0)).1]? = some (Cond.code (om_y 103) (om_by 103) (om_ml 103) (om_rt 103)) := by decide +kernel
theorem om_id103 : om_ick 103 = true := by decide +kernel
theorem om_ic104 : lw_tbl[(om_mix.getD 104 (0, 0, 0, 0)).1]? = some (Cond.code (om_y 104) (om_by 104) (om_ml 104) (om_rt 104)) := by decide +kernel
theorem om_id104 : om_ick 104 = true := by decide +kernel
theorem om_ic105 : lw_tbl[(om_mix.getD 105 (0, 0, 0, 0)).1]? = some (Cond.code (om_y 105) (om_by 105) (om_ml 105) (om_rt 105)) := by decide +kernel
theorem om_id105 : om_ick 105 = true := by decide +kernel
theorem om_ic106 : lw_tbl[(om_mix.getD 106 (0, 0, 0, 0)).1]? = some (Cond.code (om_y 106) (om_by 106) (om_ml 106) (om_rt 106)) := by decide +kernel
theorem om_id106 : om_ick 106 = true := by decide +kernel
theorem om_ic107 : lw_tbl[(om_mix.getD 107 (0, 0, 0, 0)).1]? = some (Cond.code (om_y 107) (om_by 107) (om_ml 107) (om_rt 107)) := by decide +kernel
theorem om_id107 : om_ick 107 = true := by decide +kernel
theorem om_ic108 : lw_tbl[(om_mix.getD 108 (0, 0, 0, 0)).1]? = some (Cond.code (om_y 108) (om_by 108) (om_ml 108) (om_rt 108)) := by decide +kernel
theorem om_id108 : om_ick 108 = true := by decide +kernel
theorem om_ic109 : lw_tbl[(om_mix.getD 109 (0, 0, 0, 0)).1]? = some (Cond.code (om_y 109) (om_by 109) (om_ml 109) (om_rt 109)) := by decide +kernel
theorem om_id109 : om_ick 109 = true := by decide +kernel
theorem om_ic110 : lw_tbl[(om_mix.getD 110 (0, 0, 0, 0)).1]? = some (Cond.code (om_y 110) (om_by 110) (om_ml 110) (om_rt 110)) := by decide +kernel
theorem om_id110 : om_ick 110 = true := by decide +kernel
theorem om_ic111 : lw_tbl[(om_mix.getD 111 (0, 0, 0, 0)).1]? = some (Cond.code (om_y 111) (om_by 111) (om_ml 111) (om_rt 111)) := by decide +kernel
theorem om_id111 : om_ick 111 = true := by decide +kernel
theorem om_ic112 : lw_tbl[(om_mix.getD 112 (0, 0, 0, 0)).1]? = some (Cond.code (om_y 112) (om_by 112) (om_ml 112) (om_rt 112)) := by decide +kernel
theorem om_id112 : om_ick 112 = true := by decide +kernel
theorem om_ic113 : lw_tbl[(om_mix.getD 113 (0, 0, 0, 0)).1]? = some (Cond.code (om_y 113) (om_by 113) (om_ml 113) (om_rt 113)) := by decide +kernel
theorem om_id113 : om_ick 113 = true := by decide +kernel
theorem om_ic114 : lw_tbl[(om_mix.getD 114 (0, 0, 0, 0)).1]? = some (Cond.code (om_y 114) (om_by 114) (om_ml 114) (om_rt 114)) := by decide +kernel
theorem om_id114 : om_ick 114 = true := by decide +kernel
theorem om_ic115 : lw_tbl[(om_mix.getD 115 (0, 0, 0, 0)).1]? = some (Cond.code (om_y 115) (om_by 115) (om_ml 115) (om_rt 115)) := by decide +kernel
theorem om_id115 : om_ick 115 = true := by decide +kernel
theorem om_ic116 : lw_tbl[(om_mix.getD 116 (0, 0, 0, 0)).1]? = some (Cond.code (om_y 116) (om_by 116) (om_ml 116) (om_rt 116)) := by decide +kernel
theorem om_id116 : om_ick 116 = true := by decide +kernel
theorem om_ic117 : lw_tbl[(om_mix.getD 117 (0, 0, 0, 0)).1]? = some (Cond.code (om_y 117) (om_by 117) (om_ml 117) (om_rt 117)) := by decide +kernel
theorem om_id117 : om_ick 117 = true := by decide +kernel
theorem om_ic118 : lw_tbl[(om_mix.getD 118 (0, 0, 0, 0)).1]? = some (Cond.code (om_y 118) (om_by 118) (om_ml 118) (om_rt 118)) := by decide +kernel
theorem om_id118 : om_ick 118 = true := by decide +kernel
theorem om_ic119 : lw_tbl[(om_mix.getD 119 (0, 0, 0, 0)).1]? = some (Cond.code (om_y 119) (om_by 119) (om_ml 119) (om_rt 119)) := by decide +kernel
theorem om_id119 : om_ick 119 = true := by decide +kernel
theorem om_ic120 : lw_tbl[(om_mix.getD 120 (0, 0, 0, 0)).1]? = some (Cond.code (om_y 120) (om_by 120) (om_ml 120) (om_rt 120)) := by decide +kernel
theorem om_id120 : om_ick 120 = true := by decide +kernel
theorem om_ic121 : lw_tbl[(om_mix.getD 121 (0, 0, 0, 0)).1]? = some (Cond.code (om_y 121) (om_by 121) (om_ml 121) (om_rt 121)) := by decide +kernel
theorem om_id121 : om_ick 121 = true := by decide +kernel
theorem om_ic122 : lw_tbl[(om_mix.getD 122 (0, 0, 0, 0)).1]? = some (Cond.code (om_y 122) (om_by 122) (om_ml 122) (om_rt 122)) := by decide +kernel
theorem om_id122 : om_ick 122 = true := by decide +kernel
theorem om_ic123 : lw_tbl[(om_mix.getD 123 (0, 0, 0, 0)).1]? = some (Cond.code (om_y 123) (om_by 123) (om_ml 123) (om_rt 123)) := by decide +kernel
theorem om_id123 : om_ick 123 = true := by decide +kernel
theorem om_ic124 : lw_tbl[(om_mix.getD 124 (0, 0, 0, 0)).1]? = some (Cond.code (om_y 124) (om_by 124) (om_ml 124) (om_rt 124)) := by decide +kernel
theorem om_id124 : om_ick 124 = true := by decide +kernel
theorem om_ic125 : lw_tbl[(om_mix.getD 125 (0, 0, 0, 0)).1]? = some (Cond.code (om_y 125) (om_by 125) (om_ml 125) (om_rt 125)) := by decide +kernel
theorem om_id125 : om_ick 125 = true := by decide +kernel
theorem om_ic126 : lw_tbl[(om_mix.getD 126 (0, 0, 0, 0)).1]? = some (Cond.code (om_y 126) (om_by 126) (om_ml 126) (om_rt 126)) := by decide +kernel
theorem om_id126 : om_ick 126 = true := by decide +kernel
theorem om_ic127 : lw_tbl[(om_mix.getD 127 (0, 0, 0, 0)).1]? = some (Cond.code (om_y 127) (om_by 127) (om_ml 127) (om_rt 127)) := by decide +kernel
theorem om_id127 : om_ick 127 = true := by decide +kernel
theorem om_ic128 : lw_tbl[(om_mix.getD 128 (0, 0, 0, 0)).1]? = some (Cond.code (om_y 128) (om_by 128) (om_ml 128) (om_rt 128)) := by decide +kernel
theorem om_id128 : om_ick 128 = true := by decide +kernel
theorem om_ic129 : lw_tbl[(om_mix.getD 129 (0, 0, 0, 0)).1]? = some (Cond.code (om_y 129) (om_by 129) (om_ml 129) (om_rt 129)) := by decide +kernel
theorem om_id129 : om_ick 129 = true := by decide +kernel
theorem om_ic130 : lw_tbl[(om_mix.getD 130 (0, 0, 0, 0)).1]? = some (Cond.code (om_y 130) (om_by 130) (om_ml 130) (om_rt 130)) := by decide +kernel
theorem om_id130 : om_ick 130 = true := by decide +kernel
theorem om_ic131 : lw_tbl[(om_mix.getD 131 (0, 0, 0, 0)).1]? = some (Cond.code (om_y 131) (om_by 131) (om_ml 131) (om_rt 131)) := by decide +kernel
theorem om_id131 : om_ick 131 = true := by decide +kernel
theorem om_ic132 : lw_tbl[(om_mix.getD 132 (0, 0, 0, 0)).1]? = some (Cond.code (om_y 132) (om_by 132) (om_ml 132) (om_rt 132)) := by decide +kernel
theorem om_id132 : om_ick 132 = true := by decide +kernel
theorem om_ic133 : lw_tbl[(om_mix.getD 133 (0, 0, 0, 0)).1]? = some (Cond.code (om_y 133) (om_by 133) (om_ml 133) (om_rt 133)) := by decide +kernel
theorem om_id133 : om_ick 133 = true := by decide +kernel
theorem om_ic134 : lw_tbl[(om_mix.getD 134 (0, 0, 0, 0)).1]? = some (Cond.code (om_y 134) (om_by 134) (om_ml 134) (om_rt 134)) := by decide +kernel
theorem om_id134 : om_ick 134 = true := by decide +kernel
theorem om_ic135 : lw_tbl[(om_mix.getD 135 (0, 0, 0, 0)).1]? = some (Cond.code (om_y 135) (om_by 135) (om_ml 135) (om_rt 135)) := by decide +kernel
theorem om_id135 : om_ick 135 = true := by decide +kernel
theorem om_ic136 : lw_tbl[(om_mix.getD 136 (0, 0, 0, 0)).1]? = some (Cond.code (om_y 136) (om_by 136) (om_ml 136) (om_rt 136)) := by decide +kernel
theorem om_id136 : om_ick 136 = true := by decide +kernel
theorem om_ic137 : lw_tbl[(om_mix.getD 137 (0, 0, 0, 0)).1]? = some (Cond.code (om_y 137) (om_by 137) (om_ml 137) (om_rt 137)) := by decide +kernel
theorem om_id137 : om_ick 137 = true := by decide +kernel
theorem om_ic138 : lw_tbl[(om_mix.getD 138 (0, 0, 0, 0)).1]? = some (Cond.code (om_y 138) (om_by 138) (om_ml 138) (om_rt 138)) := by decide +kernel
theorem om_id138 : om_ick 138 = true := by decide +kernel
theorem om_ic139 : lw_tbl[(om_mix.getD 139 (0, 0, 0, 0)).1]? = some (Cond.code (om_y 139) (om_by 139) (om_ml 139) (om_rt 139)) := by decide +kernel
theorem om_id139 : om_ick 139 = true := by decide +kernel
theorem om_ic140 : lw_tbl[(om_mix.getD 140 (0, 0, 0, 0)).1]? = some (Cond.code (om_y 140) (om_by 140) (om_ml 140) (om_rt 140)) := by decide +kernel
theorem om_id140 : om_ick 140 = true := by decide +kernel
theorem om_ic141 : lw_tbl[(om_mix.getD 141 (0, 0, 0, 0)).1]? = some (Cond.code (om_y 141) (om_by 141) (om_ml 141) (om_rt 141)) := by decide +kernel
theorem om_id141 : om_ick 141 = true := by decide +kernel
theorem om_ic142 : lw_tbl[(om_mix.getD 142 (0, 0, 0, 0)).1]? = some (Cond.code (om_y 142) (om_by 142) (om_ml 142) (om_rt 142)) := by decide +kernel
theorem om_id142 : om_ick 142 = true := by decide +kernel
theorem om_ic143 : lw_tbl[(om_mix.getD 143 (0, 0, 0, 0)).1]? = some (Cond.code (om_y 143) (om_by 143) (om_ml 143) (om_rt 143)) := by decide +kernel
theorem om_id143 : om_ick 143 = true := by decide +kernel
theorem om_ic144 : lw_tbl[(om_mix.getD 144 (0, 0, 0, 0)).1]? = some (Cond.code (om_y 144) (om_by 144) (om_ml 144) (om_rt 144)) := by decide +kernel
theorem om_id144 : om_ick 144 = true := by decide +kernel
theorem om_ic145 : lw_tbl[(om_mix.getD 145 (0, 0, 0, 0)).1]? = some (Cond.code (om_y 145) (om_by 145) (om_ml 145) (om_rt 145)) := by decide +kernel
theorem om_id145 : om_ick 145 = true := by decide +kernel
theorem om_ic146 : lw_tbl[(om_mix.getD 146 (0, 0, 0, 0)).1]? = some (Cond.code (om_y 146) (om_by 146) (om_ml 146) (om_rt 146)) := by decide +kernel
theorem om_id146 : om_ick 146 = true := by decide +kernel
theorem om_ic147 : lw_tbl[(om_mix.getD 147 (0, 0, 0, 0)).1]? = some (Cond.code (om_y 147) (om_by 147) (om_ml 147) (om_rt 147)) := by decide +kernel
theorem om_id147 : om_ick 147 = true := by decide +kernel
theorem om_ic148 : lw_tbl[(om_mix.getD 148 (0, 0, 0, 0)).1]? = some (Cond.code (om_y 148) (om_by 148) (om_ml 148) (om_rt 148)) := by decide +kernel
theorem om_id148 : om_ick 148 = true := by decide +kernel
theorem om_ic149 : lw_tbl[(om_mix.getD 149 (0, 0, 0, 0)).1]? = some (Cond.code (om_y 149) (om_by 149) (om_ml 149) (om_rt 149)) := by decide +kernel
theorem om_id149 : om_ick 149 = true := by decide +kernel
theorem om_ic150 : lw_tbl[(om_mix.getD 150 (0, 0, 0, 0)).1]? = some (Cond.code (om_y 150) (om_by 150) (om_ml 150) (om_rt 150)) := by decide +kernel
theorem om_id150 : om_ick 150 = true := by decide +kernel
theorem om_ic151 : lw_tbl[(om_mix.getD 151 (0, 0, 0, 0)).1]? = some (Cond.code (om_y 151) (om_by 151) (om_ml 151) (om_rt 151)) := by decide +kernel
theorem om_id151 : om_ick 151 = true := by decide +kernel
theorem om_ic152 : lw_tbl[(om_mix.getD 152 (0, 0, 0, 0)).1]? = some (Cond.code (om_y 152) (om_by 152) (om_ml 152) (om_rt 152)) := by decide +kernel
theorem om_id152 : om_ick 152 = true := by decide +kernel
theorem om_ic153 : lw_tbl[(om_mix.getD 153 (0, 0, 0, 0)).1]? = some (Cond.code (om_y 153) (om_by 153) (om_ml 153) (om_rt 153)) := by decide +kernel
theorem om_id153 : om_ick 153 = true := by decide +kernel
theorem om_ic154 : lw_tbl[(om_mix.getD 154 (0, 0, 0, 0)).1]? = some (Cond.code (om_y 154) (om_by 154) (om_ml 154) (om_rt 154)) := by decide +kernel
theorem om_id154 : om_ick 154 = true := by decide +kernel
theorem om_ic155 : lw_tbl[(om_mix.getD 155 (0, 0, 0, 0)).1]? = some (Cond.code (om_y 155) (om_by 155) (om_ml 155) (om_rt 155)) := by decide +kernel
theorem om_id155 : om_ick 155 = true := by decide +kernel
theorem om_ic156 : lw_tbl[(om_mix.getD 156 (0, 0, 0, 0)).1]? = some (Cond.code (om_y 156) (om_by 156) (om_ml 156) (om_rt 156)) := by decide +kernel
theorem om_id156 : om_ick 156 = true := by decide +kernel
theorem om_ic157 : lw_tbl[(om_mix.getD 157 (0, 0, 0, 0)).1]? = some (Cond.code (om_y 157) (om_by 157) (om_ml 157) (om_rt 157)) := by decide +kernel
theorem om_id157 : om_ick 157 = true := by decide +kernel
theorem om_ic158 : lw_tbl[(om_mix.getD 158 (0, 0, 0, 0)).1]? = some (Cond.code (om_y 158) (om_by 158) (om_ml 158) (om_rt 158)) := by decide +kernel
theorem om_id158 : om_ick 158 = true := by decide +kernel
theorem om_ic159 : lw_tbl[(om_mix.getD 159 (0, 0, 0, 0)).1]? = some (Cond.code (om_y 159) (om_by 159) (om_ml 159) (om_rt 159)) := by decide +kernel
theorem om_id159 : om_ick 159 = true := by decide +kernel
def om_lck (ci : Nat) : Bool := (List.range (om_fN ci)).all (fun k => om_at ((om_lyx.getD ci []).getD k 0) (u_lay (om_cn ci) (om_fT ci) k))
  && (match om_nwx.getD ci (0, 0) with | (a, b) => om_at a (Cond.instantiable (om_cn ci) (om_fN ci)) && om_at b (Cond.initialized (om_cn ci)))
theorem om_lok1 : (List.range 10).all om_lck = true := by decide +kernel
def om_rck (mi : Nat) : Bool := match om_rk mi, om_rt mi with
  | 0, none => true
  | 1, some .int => true
  | 2, some .boolean => true
  | 3, some .char => true
  | 4, some (.object _) => true
  | _, _ => false
theorem om_rok1 : (List.range 160).all om_rck = true := by decide +kernel
theorem om_ic {mi : Nat} (h0 : 0 < mi) (h1 : mi < 160) (h2 : mi ≠ 33) : Cond.code (om_y mi) (om_by mi) (om_ml mi) (om_rt mi) ∈ lw_tbl ∧ om_ick mi = true := by
  match mi, h0, h1, h2 with
  | 1, _, _, _ => exact ⟨List.mem_of_getElem? om_ic1, om_id1⟩
  | 2, _, _, _ => exact ⟨List.mem_of_getElem? om_ic2, om_id2⟩
  | 3, _, _, _ => exact ⟨List.mem_of_getElem? om_ic3, om_id3⟩
  | 4, _, _, _ => exact ⟨List.mem_of_getElem? om_ic4, om_id4⟩
  | 5, _, _, _ => exact ⟨List.mem_of_getElem? om_ic5, om_id5⟩
  | 6, _, _, _ => exact ⟨List.mem_of_getElem? om_ic6, om_id6⟩
  | 7, _, _, _ => exact ⟨List.mem_of_getElem? om_ic7, om_id7⟩
  | 8, _, _, _ => exact ⟨List.mem_of_getElem? om_ic8, om_id8⟩
  | 9, _, _, _ => exact ⟨List.mem_of_getElem? om_ic9, om_id9⟩
  | 10, _, _, _ => exact ⟨List.mem_of_getElem? om_ic10, om_id10⟩
  | 11, _, _, _ => exact ⟨List.mem_of_getElem? om_ic11, om_id11⟩
  | 12, _, _, _ => exact ⟨List.mem_of_getElem? om_ic12, om_id12⟩
  | 13, _, _, _ => exact ⟨List.mem_of_getElem? om_ic13, om_id13⟩
  | 14, _, _, _ => exact ⟨List.mem_of_getElem? om_ic14, om_id14⟩
  | 15, _, _, _ => exact ⟨List.mem_of_getElem? om_ic15, om_id15⟩
  | 16, _, _, _ => exact ⟨List.mem_of_getElem? om_ic16, om_id16⟩
  | 17, _, _, _ => exact ⟨List.mem_of_getElem? om_ic17, om_id17⟩
  | 18, _, _, _ => exact ⟨List.mem_of_getElem? om_ic18, om_id18⟩
  | 19, _, _, _ => exact ⟨List.mem_of_getElem? om_ic19, om_id19⟩
  | 20, _, _, _ => exact ⟨List.mem_of_getElem? om_ic20, om_id20⟩
  | 21, _, _, _ => exact ⟨List.mem_of_getElem? om_ic21, om_id21⟩
  | 22, _, _, _ => exact ⟨List.mem_of_getElem? om_ic22, om_id22⟩
  | 23, _, _, _ => exact ⟨List.mem_of_getElem? om_ic23, om_id23⟩
  | 24, _, _, _ => exact ⟨List.mem_of_getElem? om_ic24, om_id24⟩
  | 25, _, _, _ => exact ⟨List.mem_of_getElem? om_ic25, om_id25⟩
  | 26, _, _, _ => exact ⟨List.mem_of_getElem? om_ic26, om_id26⟩
  | 27, _, _, _ => exact ⟨List.mem_of_getElem? om_ic27, om_id27⟩
  | 28, _, _, _ => exact ⟨List.mem_of_getElem? om_ic28, om_id28⟩
  | 29, _, _, _ => exact ⟨List.mem_of_getElem? om_ic29, om_id29⟩
  | 30, _, _, _ => exact ⟨List.mem_of_getElem? om_ic30, om_id30⟩
  | 31, _, _, _ => exact ⟨List.mem_of_getElem? om_ic31, om_id31⟩
  | 32, _, _, _ => exact ⟨List.mem_of_getElem? om_ic32, om_id32⟩
  | 33, _, _, h => exact absurd rfl h
  | 34, _, _, _ => exact ⟨List.mem_of_getElem? om_ic34, om_id34⟩
  | 35, _, _, _ => exact ⟨List.mem_of_getElem? om_ic35, om_id35⟩
  | 36, _, _, _ => exact ⟨List.mem_of_getElem? om_ic36, om_id36⟩
  | 37, _, _, _ => exact ⟨List.mem_of_getElem? om_ic37, om_id37⟩
  | 38, _, _, _ => exact ⟨List.mem_of_getElem? om_ic38, om_id38⟩
  | 39, _, _, _ => exact ⟨List.mem_of_getElem? om_ic39, om_id39⟩
  | 40, _, _, _ => exact ⟨List.mem_of_getElem? om_ic40, om_id40⟩
  | 41, _, _, _ => exact ⟨List.mem_of_getElem? om_ic41, om_id41⟩
  | 42, _, _, _ => exact ⟨List.mem_of_getElem? om_ic42, om_id42⟩
  | 43, _, _, _ => exact ⟨List.mem_of_getElem? om_ic43, om_id43⟩
  | 44, _, _, _ => exact ⟨List.mem_of_getElem? om_ic44, om_id44⟩
  | 45, _, _, _ => exact ⟨List.mem_of_getElem? om_ic45, om_id45⟩
  | 46, _, _, _ => exact ⟨List.mem_of_getElem? om_ic46, om_id46⟩
  | 47, _, _, _ => exact ⟨List.mem_of_getElem? om_ic47, om_id47⟩
  | 48, _, _, _ => exact ⟨List.mem_of_getElem? om_ic48, om_id48⟩
  | 49, _, _, _ => exact ⟨List.mem_of_getElem? om_ic49, om_id49⟩
  | 50, _, _, _ => exact ⟨List.mem_of_getElem? om_ic50, om_id50⟩
  | 51, _, _, _ => exact ⟨List.mem_of_getElem? om_ic51, om_id51⟩
  | 52, _, _, _ => exact ⟨List.mem_of_getElem? om_ic52, om_id52⟩
  | 53, _, _, _ => exact ⟨List.mem_of_getElem? om_ic53, om_id53⟩
  | 54, _, _, _ => exact ⟨List.mem_of_getElem? om_ic54, om_id54⟩
  | 55, _, _, _ => exact ⟨List.mem_of_getElem? om_ic55, om_id55⟩
  | 56, _, _, _ => exact ⟨List.mem_of_getElem? om_ic56, om_id56⟩
  | 57, _, _, _ => exact ⟨List.mem_of_getElem? om_ic57, om_id57⟩
  | 58, _, _, _ => exact ⟨List.mem_of_getElem? om_ic58, om_id58⟩
  | 59, _, _, _ => exact ⟨List.mem_of_getElem? om_ic59, om_id59⟩
  | 60, _, _, _ => exact ⟨List.mem_of_getElem? om_ic60, om_id60⟩
  | 61, _, _, _ => exact ⟨List.mem_of_getElem? om_ic61, om_id61⟩
  | 62, _, _, _ => exact ⟨List.mem_of_getElem? om_ic62, om_id62⟩
  | 63, _, _, _ => exact ⟨List.mem_of_getElem? om_ic63, om_id63⟩
  | 64, _, _, _ => exact ⟨List.mem_of_getElem? om_ic64, om_id64⟩
  | 65, _, _, _ => exact ⟨List.mem_of_getElem? om_ic65, om_id65⟩
  | 66, _, _, _ => exact ⟨List.mem_of_getElem? om_ic66, om_id66⟩
  | 67, _, _, _ => exact ⟨List.mem_of_getElem? om_ic67, om_id67⟩
  | 68, _, _, _ => exact ⟨List.mem_of_getElem? om_ic68, om_id68⟩
  | 69, _, _, _ => exact ⟨List.mem_of_getElem? om_ic69, om_id69⟩
  | 70, _, _, _ => exact ⟨List.mem_of_getElem? om_ic70, om_id70⟩
  | 71, _, _, _ => exact ⟨List.mem_of_getElem? om_ic71, om_id71⟩
  | 72, _, _, _ => exact ⟨List.mem_of_getElem? om_ic72, om_id72⟩
  | 73, _, _, _ => exact ⟨List.mem_of_getElem? om_ic73, om_id73⟩
  | 74, _, _, _ => exact ⟨List.mem_of_getElem? om_ic74, om_id74⟩
  | 75, _, _, _ => exact ⟨List.mem_of_getElem? om_ic75, om_id75⟩
  | 76, _, _, _ => exact ⟨List.mem_of_getElem? om_ic76, om_id76⟩
  | 77, _, _, _ => exact ⟨List.mem_of_getElem? om_ic77, om_id77⟩
  | 78, _, _, _ => exact ⟨List.mem_of_getElem? om_ic78, om_id78⟩
  | 79, _, _, _ => exact ⟨List.mem_of_getElem? om_ic79, om_id79⟩
  | 80, _, _, _ => exact ⟨List.mem_of_getElem? om_ic80, om_id80⟩
  | 81, _, _, _ => exact ⟨List.mem_of_getElem? om_ic81, om_id81⟩
  | 82, _, _, _ => exact ⟨List.mem_of_getElem? om_ic82, om_id82⟩
  | 83, _, _, _ => exact ⟨List.mem_of_getElem? om_ic83, om_id83⟩
  | 84, _, _, _ => exact ⟨List.mem_of_getElem? om_ic84, om_id84⟩
  | 85, _, _, _ => exact ⟨List.mem_of_getElem? om_ic85, om_id85⟩
  | 86, _, _, _ => exact ⟨List.mem_of_getElem? om_ic86, om_id86⟩
  | 87, _, _, _ => exact ⟨List.mem_of_getElem? om_ic87, om_id87⟩
  | 88, _, _, _ => exact ⟨List.mem_of_getElem? om_ic88, om_id88⟩
  | 89, _, _, _ => exact ⟨List.mem_of_getElem? om_ic89, om_id89⟩
  | 90, _, _, _ => exact ⟨List.mem_of_getElem? om_ic90, om_id90⟩
  | 91, _, _, _ => exact ⟨List.mem_of_getElem? om_ic91, om_id91⟩
  | 92, _, _, _ => exact ⟨List.mem_of_getElem? om_ic92, om_id92⟩
  | 93, _, _, _ => exact ⟨List.mem_of_getElem? om_ic93, om_id93⟩
  | 94, _, _, _ => exact ⟨List.mem_of_getElem? om_ic94, om_id94⟩
  | 95, _, _, _ => exact ⟨List.mem_of_getElem? om_ic95, om_id95⟩
  | 96, _, _, _ => exact ⟨List.mem_of_getElem? om_ic96, om_id96⟩
  | 97, _, _, _ => exact ⟨List.mem_of_getElem? om_ic97, om_id97⟩
  | 98, _, _, _ => exact ⟨List.mem_of_getElem? om_ic98, om_id98⟩
  | 99, _, _, _ => exact ⟨List.mem_of_getElem? om_ic99, om_id99⟩
  | 100, _, _, _ => exact ⟨List.mem_of_getElem? om_ic100, om_id100⟩
  | 101, _, _, _ => exact ⟨List.mem_of_getElem? om_ic101, om_id101⟩
  | 102, _, _, _ => exact ⟨List.mem_of_getElem? om_ic102, om_id102⟩
  | 103, _, _, _ => exact ⟨List.mem_of_getElem? om_ic103, om_id103⟩
  | 104, _, _, _ => exact ⟨List.mem_of_getElem? om_ic104, om_id104⟩
  | 105, _, _, _ => exact ⟨List.mem_of_getElem? om_ic105, om_id105⟩
  | 106, _, _, _ => exact ⟨List.mem_of_getElem? om_ic106, om_id106⟩
  | 107, _, _, _ => exact ⟨List.mem_of_getElem? om_ic107, om_id107⟩
  | 108, _, _, _ => exact ⟨List.mem_of_getElem? om_ic108, om_id108⟩
  | 109, _, _, _ => exact ⟨List.mem_of_getElem? om_ic109, om_id109⟩
  | 110, _, _, _ => exact ⟨List.mem_of_getElem? om_ic110, om_id110⟩
  | 111, _, _, _ => exact ⟨List.mem_of_getElem? om_ic111, om_id111⟩
  | 112, _, _, _ => exact ⟨List.mem_of_getElem? om_ic112, om_id112⟩
  | 113, _, _, _ => exact ⟨List.mem_of_getElem? om_ic113, om_id113⟩
  | 114, _, _, _ => exact ⟨List.mem_of_getElem? om_ic114, om_id114⟩
  | 115, _, _, _ => exact ⟨List.mem_of_getElem? om_ic115, om_id115⟩
  | 116, _, _, _ => exact ⟨List.mem_of_getElem? om_ic116, om_id116⟩
  | 117, _, _, _ => exact ⟨List.mem_of_getElem? om_ic117, om_id117⟩
  | 118, _, _, _ => exact ⟨List.mem_of_getElem? om_ic118, om_id118⟩
  | 119, _, _, _ => exact ⟨List.mem_of_getElem? om_ic119, om_id119⟩
  | 120, _, _, _ => exact ⟨List.mem_of_getElem? om_ic120, om_id120⟩
  | 121, _, _, _ => exact ⟨List.mem_of_getElem? om_ic121, om_id121⟩
  | 122, _, _, _ => exact ⟨List.mem_of_getElem? om_ic122, om_id122⟩
  | 123, _, _, _ => exact ⟨List.mem_of_getElem? om_ic123, om_id123⟩
  | 124, _, _, _ => exact ⟨List.mem_of_getElem? om_ic124, om_id124⟩
  | 125, _, _, _ => exact ⟨List.mem_of_getElem? om_ic125, om_id125⟩
  | 126, _, _, _ => exact ⟨List.mem_of_getElem? om_ic126, om_id126⟩
  | 127, _, _, _ => exact ⟨List.mem_of_getElem? om_ic127, om_id127⟩
  | 128, _, _, _ => exact ⟨List.mem_of_getElem? om_ic128, om_id128⟩
  | 129, _, _, _ => exact ⟨List.mem_of_getElem? om_ic129, om_id129⟩
  | 130, _, _, _ => exact ⟨List.mem_of_getElem? om_ic130, om_id130⟩
  | 131, _, _, _ => exact ⟨List.mem_of_getElem? om_ic131, om_id131⟩
  | 132, _, _, _ => exact ⟨List.mem_of_getElem? om_ic132, om_id132⟩
  | 133, _, _, _ => exact ⟨List.mem_of_getElem? om_ic133, om_id133⟩
  | 134, _, _, _ => exact ⟨List.mem_of_getElem? om_ic134, om_id134⟩
  | 135, _, _, _ => exact ⟨List.mem_of_getElem? om_ic135, om_id135⟩
  | 136, _, _, _ => exact ⟨List.mem_of_getElem? om_ic136, om_id136⟩
  | 137, _, _, _ => exact ⟨List.mem_of_getElem? om_ic137, om_id137⟩
  | 138, _, _, _ => exact ⟨List.mem_of_getElem? om_ic138, om_id138⟩
  | 139, _, _, _ => exact ⟨List.mem_of_getElem? om_ic139, om_id139⟩
  | 140, _, _, _ => exact ⟨List.mem_of_getElem? om_ic140, om_id140⟩
  | 141, _, _, _ => exact ⟨List.mem_of_getElem? om_ic141, om_id141⟩
  | 142, _, _, _ => exact ⟨List.mem_of_getElem? om_ic142, om_id142⟩
  | 143, _, _, _ => exact ⟨List.mem_of_getElem? om_ic143, om_id143⟩
  | 144, _, _, _ => exact ⟨List.mem_of_getElem? om_ic144, om_id144⟩
  | 145, _, _, _ => exact ⟨List.mem_of_getElem? om_ic145, om_id145⟩
  | 146, _, _, _ => exact ⟨List.mem_of_getElem? om_ic146, om_id146⟩
  | 147, _, _, _ => exact ⟨List.mem_of_getElem? om_ic147, om_id147⟩
  | 148, _, _, _ => exact ⟨List.mem_of_getElem? om_ic148, om_id148⟩
  | 149, _, _, _ => exact ⟨List.mem_of_getElem? om_ic149, om_id149⟩
  | 150, _, _, _ => exact ⟨List.mem_of_getElem? om_ic150, om_id150⟩
  | 151, _, _, _ => exact ⟨List.mem_of_getElem? om_ic151, om_id151⟩
  | 152, _, _, _ => exact ⟨List.mem_of_getElem? om_ic152, om_id152⟩
  | 153, _, _, _ => exact ⟨List.mem_of_getElem? om_ic153, om_id153⟩
  | 154, _, _, _ => exact ⟨List.mem_of_getElem? om_ic154, om_id154⟩
  | 155, _, _, _ => exact ⟨List.mem_of_getElem? om_ic155, om_id155⟩
  | 156, _, _, _ => exact ⟨List.mem_of_getElem? om_ic156, om_id156⟩
  | 157, _, _, _ => exact ⟨List.mem_of_getElem? om_ic157, om_id157⟩
  | 158, _, _, _ => exact ⟨List.mem_of_getElem? om_ic158, om_id158⟩
  | 159, _, _, _ => exact ⟨List.mem_of_getElem? om_ic159, om_id159⟩
  | n + 160, _, h, _ => exact absurd h (by omega)
