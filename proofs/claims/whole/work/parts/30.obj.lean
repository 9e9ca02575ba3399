/-! the cells behind the two constructors: printed by wip/gen/obj.py -/
def om_O (s : Int) (q : Nat → Int) : List (Nat × Nat × List om_V) := [(8, 8, [.inr (.inl 1), .inr (.inl 20), .inr (.inl 25), .inr (.inl 71), .inr (.inl 78), .inr (.inl 89), .inr (.inl 97), .inr (.inl 2)]), (23, 8, [.inr (.inl 4), .inr (.inl 6), .inr (.inl 8), .inr (.inl 10), .inr (.inl 12), .inr (.inl 14), .inr (.inl 16), .inr (.inl 18)]), (6, 2, [.inr (.inl 3), .inl (q 0)]), (21, 650, []), (5, 3, [.inl 5, .inl 13, .inr (.inl 5)]), (20, 65, []), (5, 3, [.inl 5, .inl 13, .inr (.inl 7)]), (20, 65, []), (5, 3, [.inl 5, .inl 13, .inr (.inl 9)]), (20, 65, []), (5, 3, [.inl 5, .inl 13, .inr (.inl 11)]), (20, 65, []), (5, 3, [.inl 5, .inl 13, .inr (.inl 13)]), (20, 65, []), (5, 3, [.inl 5, .inl 13, .inr (.inl 15)]), (20, 65, []), (5, 3, [.inl 5, .inl 13, .inr (.inl 17)]), (20, 65, []), (5, 3, [.inl 5, .inl 13, .inr (.inl 19)]), (20, 65, []), (0, 3, [.inl s, .inr (.inl 21), .inr (.inl 23)]), (5, 3, [.inl 9, .inl 25, .inr (.inl 22)]), (20, 225, []), (5, 3, [.inl 9, .inl 25, .inr (.inl 24)]), (20, 225, []), (7, 10, [.inr (.inl 20), .inr (.inl 26), .inl (q 1), .inl (q 2), .inl (q 3), .inl (q 4), .inr (.inl 27), .inr (.inl 28), .inr (.inl 29), .inr (.inl 30)]), (21, 40, []), (23, 5, [.inr (.inl 31), .inr (.inl 39), .inr (.inl 47), .inr (.inl 55), .inr (.inl 63)]), (23, 5, [.inr (.inl 33), .inr (.inl 41), .inr (.inl 49), .inr (.inl 57), .inr (.inl 65)]), (23, 5, [.inr (.inl 35), .inr (.inl 43), .inr (.inl 51), .inr (.inl 59), .inr (.inl 67)]), (23, 5, [.inr (.inl 37), .inr (.inl 45), .inr (.inl 53), .inr (.inl 61), .inr (.inl 69)]), (5, 3, [.inl 5, .inl 13, .inr (.inl 32)]), (20, 65, []), (5, 3, [.inl 5, .inl 13, .inr (.inl 34)]), (20, 65, []), (5, 3, [.inl 5, .inl 13, .inr (.inl 36)]), (20, 65, []), (5, 3, [.inl 5, .inl 13, .inr (.inl 38)]), (20, 65, []), (5, 3, [.inl 5, .inl 13, .inr (.inl 40)]), (20, 65, []), (5, 3, [.inl 5, .inl 13, .inr (.inl 42)]), (20, 65, []), (5, 3, [.inl 5, .inl 13, .inr (.inl 44)]), (20, 65, []), (5, 3, [.inl 5, .inl 13, .inr (.inl 46)]), (20, 65, []), (5, 3, [.inl 5, .inl 13, .inr (.inl 48)]), (20, 65, []), (5, 3, [.inl 5, .inl 13, .inr (.inl 50)]), (20, 65, []), (5, 3, [.inl 5, .inl 13, .inr (.inl 52)]), (20, 65, []), (5, 3, [.inl 5, .inl 13, .inr (.inl 54)]), (20, 65, []), (5, 3, [.inl 5, .inl 13, .inr (.inl 56)]), (20, 65, []), (5, 3, [.inl 5, .inl 13, .inr (.inl 58)]), (20, 65, []), (5, 3, [.inl 5, .inl 13, .inr (.inl 60)]), (20, 65, []), (5, 3, [.inl 5, .inl 13, .inr (.inl 62)]), (20, 65, []), (5, 3, [.inl 5, .inl 13, .inr (.inl 64)]), (20, 65, []), (5, 3, [.inl 5, .inl 13, .inr (.inl 66)]), (20, 65, []), (5, 3, [.inl 5, .inl 13, .inr (.inl 68)]), (20, 65, []), (5, 3, [.inl 5, .inl 13, .inr (.inl 70)]), (20, 65, []), (1, 4, [.inr (.inl 20), .inr (.inl 72), .inr (.inl 74), .inr (.inl 76)]), (5, 3, [.inl 5, .inl 13, .inr (.inl 73)]), (20, 65, []), (5, 3, [.inl 5, .inl 25, .inr (.inl 75)]), (20, 125, []), (5, 3, [.inl 5, .inl 13, .inr (.inl 77)]), (20, 65, []), (3, 6, [.inr (.inl 20), .inr (.inl 79), .inr (.inl 81), .inr (.inl 83), .inr (.inl 85), .inr (.inl 87)]), (5, 3, [.inl 5, .inl 61, .inr (.inl 80)]), (20, 305, []), (5, 3, [.inl 5, .inl 61, .inr (.inl 82)]), (20, 305, []), (5, 3, [.inl 5, .inl 61, .inr (.inl 84)]), (20, 305, []), (5, 3, [.inl 5, .inl 61, .inr (.inl 86)]), (20, 305, []), (5, 3, [.inl 1, .inl 13, .inr (.inl 88)]), (20, 13, []), (2, 6, [.inr (.inl 20), .inr (.inl 90), .inr (.inl 92), .inr (.inl 94), .inr (.inl 95), .inl (q 5)]), (5, 3, [.inl 1, .inl 13, .inr (.inl 91)]), (20, 13, []), (5, 3, [.inl 25, .inl 14, .inr (.inl 93)]), (20, 350, []), (20, 13, []), (5, 3, [.inl 14, .inl 13, .inr (.inl 96)]), (20, 182, []), (4, 4, [.inr (.inl 20), .inr (.inl 98), .inr (.inl 100), .inl (q 6)]), (5, 3, [.inl 5, .inl 17, .inr (.inl 99)]), (20, 85, []), (20, 961, []), (9, 23, [.inl (if s = 0 then 1 else 0), .inr (.inl 102), .inr (.inl 103), .inl (q 7), .inr (.inl 104), .inr (.inl 105), .inr (.inl 106), .inl (q 8), .inl (q 9), .inl (q 10), .inr (.inl 107), .inl (q 11), .inr (.inl 108), .inr (.inl 109), .inr (.inl 110), .inr (.inl 111), .inl (q 12), .inr (.inl 112), .inr (.inl 113), .inr (.inl 114), .inr (.inl 115), .inr (.inl 116), .inr (.inl 117)]), (20, 1170, []), (20, 3456, []), (20, 40, []), (20, 5, []), (22, 5, []), (20, 700, []), (20, 182, []), (20, 325, []), (20, 169, []), (20, 13, []), (20, 25, []), (20, 13, []), (22, 961, []), (20, 24, []), (20, 9, []), (20, 8, [])]
def om_qs (q : Nat → Int) (n : Nat) (v : Int) : Nat → Int := fun m => if m = n then v else q m
theorem om_qs_eq {q : Nat → Int} {n : Nat} {v : Int} : om_qs q n v n = v := if_pos rfl
theorem om_qs_ne {q : Nat → Int} {n m : Nat} {v : Int} (h : m ≠ n) : om_qs q n v m = q m := if_neg h
section om_obj
variable {s : Int} {q : Nat → Int}
theorem gO_0_0 (K : om_V → Prop) : om_rg (om_O s q) 0 8 0 K = K (.inr (.inl 1)) := rfl
theorem gO_0_1 (K : om_V → Prop) : om_rg (om_O s q) 0 8 1 K = K (.inr (.inl 20)) := rfl
theorem gO_0_2 (K : om_V → Prop) : om_rg (om_O s q) 0 8 2 K = K (.inr (.inl 25)) := rfl
theorem gO_0_3 (K : om_V → Prop) : om_rg (om_O s q) 0 8 3 K = K (.inr (.inl 71)) := rfl
theorem gO_0_4 (K : om_V → Prop) : om_rg (om_O s q) 0 8 4 K = K (.inr (.inl 78)) := rfl
theorem gO_0_5 (K : om_V → Prop) : om_rg (om_O s q) 0 8 5 K = K (.inr (.inl 89)) := rfl
theorem gO_0_6 (K : om_V → Prop) : om_rg (om_O s q) 0 8 6 K = K (.inr (.inl 97)) := rfl
theorem gO_0_7 (K : om_V → Prop) : om_rg (om_O s q) 0 8 7 K = K (.inr (.inl 2)) := rfl
theorem rO_0 : om_rv (om_O s q) 0 8 = True := om_rv_eq rfl
theorem gO_2_0 (K : om_V → Prop) : om_rg (om_O s q) 2 6 0 K = K (.inr (.inl 3)) := rfl
theorem gO_2_1 (K : om_V → Prop) : om_rg (om_O s q) 2 6 1 K = K (.inl (q 0)) := rfl
theorem rO_2 : om_rv (om_O s q) 2 6 = True := om_rv_eq rfl
theorem aO_3 (z : Int) : om_ab (om_O s q) 3 21 z = (0 ≤ z ∧ z < 650) := om_ab_eq rfl
theorem aO_5 (z : Int) : om_ab (om_O s q) 5 20 z = (0 ≤ z ∧ z < 65) := om_ab_eq rfl
theorem aO_7 (z : Int) : om_ab (om_O s q) 7 20 z = (0 ≤ z ∧ z < 65) := om_ab_eq rfl
theorem aO_9 (z : Int) : om_ab (om_O s q) 9 20 z = (0 ≤ z ∧ z < 65) := om_ab_eq rfl
theorem aO_11 (z : Int) : om_ab (om_O s q) 11 20 z = (0 ≤ z ∧ z < 65) := om_ab_eq rfl
theorem aO_13 (z : Int) : om_ab (om_O s q) 13 20 z = (0 ≤ z ∧ z < 65) := om_ab_eq rfl
theorem aO_15 (z : Int) : om_ab (om_O s q) 15 20 z = (0 ≤ z ∧ z < 65) := om_ab_eq rfl
theorem aO_17 (z : Int) : om_ab (om_O s q) 17 20 z = (0 ≤ z ∧ z < 65) := om_ab_eq rfl
theorem aO_19 (z : Int) : om_ab (om_O s q) 19 20 z = (0 ≤ z ∧ z < 65) := om_ab_eq rfl
theorem gO_20_0 (K : om_V → Prop) : om_rg (om_O s q) 20 0 0 K = K (.inl s) := rfl
theorem gO_20_1 (K : om_V → Prop) : om_rg (om_O s q) 20 0 1 K = K (.inr (.inl 21)) := rfl
theorem gO_20_2 (K : om_V → Prop) : om_rg (om_O s q) 20 0 2 K = K (.inr (.inl 23)) := rfl
theorem rO_20 : om_rv (om_O s q) 20 0 = True := om_rv_eq rfl
theorem aO_22 (z : Int) : om_ab (om_O s q) 22 20 z = (0 ≤ z ∧ z < 225) := om_ab_eq rfl
theorem aO_24 (z : Int) : om_ab (om_O s q) 24 20 z = (0 ≤ z ∧ z < 225) := om_ab_eq rfl
theorem gO_25_0 (K : om_V → Prop) : om_rg (om_O s q) 25 7 0 K = K (.inr (.inl 20)) := rfl
theorem gO_25_1 (K : om_V → Prop) : om_rg (om_O s q) 25 7 1 K = K (.inr (.inl 26)) := rfl
theorem gO_25_2 (K : om_V → Prop) : om_rg (om_O s q) 25 7 2 K = K (.inl (q 1)) := rfl
theorem gO_25_3 (K : om_V → Prop) : om_rg (om_O s q) 25 7 3 K = K (.inl (q 2)) := rfl
theorem gO_25_4 (K : om_V → Prop) : om_rg (om_O s q) 25 7 4 K = K (.inl (q 3)) := rfl
theorem gO_25_5 (K : om_V → Prop) : om_rg (om_O s q) 25 7 5 K = K (.inl (q 4)) := rfl
theorem gO_25_6 (K : om_V → Prop) : om_rg (om_O s q) 25 7 6 K = K (.inr (.inl 27)) := rfl
theorem gO_25_7 (K : om_V → Prop) : om_rg (om_O s q) 25 7 7 K = K (.inr (.inl 28)) := rfl
theorem gO_25_8 (K : om_V → Prop) : om_rg (om_O s q) 25 7 8 K = K (.inr (.inl 29)) := rfl
theorem gO_25_9 (K : om_V → Prop) : om_rg (om_O s q) 25 7 9 K = K (.inr (.inl 30)) := rfl
theorem rO_25 : om_rv (om_O s q) 25 7 = True := om_rv_eq rfl
theorem aO_26 (z : Int) : om_ab (om_O s q) 26 21 z = (0 ≤ z ∧ z < 40) := om_ab_eq rfl
theorem aO_32 (z : Int) : om_ab (om_O s q) 32 20 z = (0 ≤ z ∧ z < 65) := om_ab_eq rfl
theorem aO_34 (z : Int) : om_ab (om_O s q) 34 20 z = (0 ≤ z ∧ z < 65) := om_ab_eq rfl
theorem aO_36 (z : Int) : om_ab (om_O s q) 36 20 z = (0 ≤ z ∧ z < 65) := om_ab_eq rfl
theorem aO_38 (z : Int) : om_ab (om_O s q) 38 20 z = (0 ≤ z ∧ z < 65) := om_ab_eq rfl
theorem aO_40 (z : Int) : om_ab (om_O s q) 40 20 z = (0 ≤ z ∧ z < 65) := om_ab_eq rfl
theorem aO_42 (z : Int) : om_ab (om_O s q) 42 20 z = (0 ≤ z ∧ z < 65) := om_ab_eq rfl
theorem aO_44 (z : Int) : om_ab (om_O s q) 44 20 z = (0 ≤ z ∧ z < 65) := om_ab_eq rfl
theorem aO_46 (z : Int) : om_ab (om_O s q) 46 20 z = (0 ≤ z ∧ z < 65) := om_ab_eq rfl
theorem aO_48 (z : Int) : om_ab (om_O s q) 48 20 z = (0 ≤ z ∧ z < 65) := om_ab_eq rfl
theorem aO_50 (z : Int) : om_ab (om_O s q) 50 20 z = (0 ≤ z ∧ z < 65) := om_ab_eq rfl
theorem aO_52 (z : Int) : om_ab (om_O s q) 52 20 z = (0 ≤ z ∧ z < 65) := om_ab_eq rfl
theorem aO_54 (z : Int) : om_ab (om_O s q) 54 20 z = (0 ≤ z ∧ z < 65) := om_ab_eq rfl
theorem aO_56 (z : Int) : om_ab (om_O s q) 56 20 z = (0 ≤ z ∧ z < 65) := om_ab_eq rfl
theorem aO_58 (z : Int) : om_ab (om_O s q) 58 20 z = (0 ≤ z ∧ z < 65) := om_ab_eq rfl
theorem aO_60 (z : Int) : om_ab (om_O s q) 60 20 z = (0 ≤ z ∧ z < 65) := om_ab_eq rfl
theorem aO_62 (z : Int) : om_ab (om_O s q) 62 20 z = (0 ≤ z ∧ z < 65) := om_ab_eq rfl
theorem aO_64 (z : Int) : om_ab (om_O s q) 64 20 z = (0 ≤ z ∧ z < 65) := om_ab_eq rfl
theorem aO_66 (z : Int) : om_ab (om_O s q) 66 20 z = (0 ≤ z ∧ z < 65) := om_ab_eq rfl
theorem aO_68 (z : Int) : om_ab (om_O s q) 68 20 z = (0 ≤ z ∧ z < 65) := om_ab_eq rfl
theorem aO_70 (z : Int) : om_ab (om_O s q) 70 20 z = (0 ≤ z ∧ z < 65) := om_ab_eq rfl
theorem gO_71_0 (K : om_V → Prop) : om_rg (om_O s q) 71 1 0 K = K (.inr (.inl 20)) := rfl
theorem gO_71_1 (K : om_V → Prop) : om_rg (om_O s q) 71 1 1 K = K (.inr (.inl 72)) := rfl
theorem gO_71_2 (K : om_V → Prop) : om_rg (om_O s q) 71 1 2 K = K (.inr (.inl 74)) := rfl
theorem gO_71_3 (K : om_V → Prop) : om_rg (om_O s q) 71 1 3 K = K (.inr (.inl 76)) := rfl
theorem rO_71 : om_rv (om_O s q) 71 1 = True := om_rv_eq rfl
theorem aO_73 (z : Int) : om_ab (om_O s q) 73 20 z = (0 ≤ z ∧ z < 65) := om_ab_eq rfl
theorem aO_75 (z : Int) : om_ab (om_O s q) 75 20 z = (0 ≤ z ∧ z < 125) := om_ab_eq rfl
theorem aO_77 (z : Int) : om_ab (om_O s q) 77 20 z = (0 ≤ z ∧ z < 65) := om_ab_eq rfl
theorem gO_78_0 (K : om_V → Prop) : om_rg (om_O s q) 78 3 0 K = K (.inr (.inl 20)) := rfl
theorem gO_78_1 (K : om_V → Prop) : om_rg (om_O s q) 78 3 1 K = K (.inr (.inl 79)) := rfl
theorem gO_78_2 (K : om_V → Prop) : om_rg (om_O s q) 78 3 2 K = K (.inr (.inl 81)) := rfl
theorem gO_78_3 (K : om_V → Prop) : om_rg (om_O s q) 78 3 3 K = K (.inr (.inl 83)) := rfl
theorem gO_78_4 (K : om_V → Prop) : om_rg (om_O s q) 78 3 4 K = K (.inr (.inl 85)) := rfl
theorem gO_78_5 (K : om_V → Prop) : om_rg (om_O s q) 78 3 5 K = K (.inr (.inl 87)) := rfl
theorem rO_78 : om_rv (om_O s q) 78 3 = True := om_rv_eq rfl
theorem aO_80 (z : Int) : om_ab (om_O s q) 80 20 z = (0 ≤ z ∧ z < 305) := om_ab_eq rfl
theorem aO_82 (z : Int) : om_ab (om_O s q) 82 20 z = (0 ≤ z ∧ z < 305) := om_ab_eq rfl
theorem aO_84 (z : Int) : om_ab (om_O s q) 84 20 z = (0 ≤ z ∧ z < 305) := om_ab_eq rfl
theorem aO_86 (z : Int) : om_ab (om_O s q) 86 20 z = (0 ≤ z ∧ z < 305) := om_ab_eq rfl
theorem aO_88 (z : Int) : om_ab (om_O s q) 88 20 z = (0 ≤ z ∧ z < 13) := om_ab_eq rfl
theorem gO_89_0 (K : om_V → Prop) : om_rg (om_O s q) 89 2 0 K = K (.inr (.inl 20)) := rfl
theorem gO_89_1 (K : om_V → Prop) : om_rg (om_O s q) 89 2 1 K = K (.inr (.inl 90)) := rfl
theorem gO_89_2 (K : om_V → Prop) : om_rg (om_O s q) 89 2 2 K = K (.inr (.inl 92)) := rfl
theorem gO_89_3 (K : om_V → Prop) : om_rg (om_O s q) 89 2 3 K = K (.inr (.inl 94)) := rfl
theorem gO_89_4 (K : om_V → Prop) : om_rg (om_O s q) 89 2 4 K = K (.inr (.inl 95)) := rfl
theorem gO_89_5 (K : om_V → Prop) : om_rg (om_O s q) 89 2 5 K = K (.inl (q 5)) := rfl
theorem rO_89 : om_rv (om_O s q) 89 2 = True := om_rv_eq rfl
theorem aO_91 (z : Int) : om_ab (om_O s q) 91 20 z = (0 ≤ z ∧ z < 13) := om_ab_eq rfl
theorem aO_93 (z : Int) : om_ab (om_O s q) 93 20 z = (0 ≤ z ∧ z < 350) := om_ab_eq rfl
theorem aO_94 (z : Int) : om_ab (om_O s q) 94 20 z = (0 ≤ z ∧ z < 13) := om_ab_eq rfl
theorem aO_96 (z : Int) : om_ab (om_O s q) 96 20 z = (0 ≤ z ∧ z < 182) := om_ab_eq rfl
theorem gO_97_0 (K : om_V → Prop) : om_rg (om_O s q) 97 4 0 K = K (.inr (.inl 20)) := rfl
theorem gO_97_1 (K : om_V → Prop) : om_rg (om_O s q) 97 4 1 K = K (.inr (.inl 98)) := rfl
theorem gO_97_2 (K : om_V → Prop) : om_rg (om_O s q) 97 4 2 K = K (.inr (.inl 100)) := rfl
theorem gO_97_3 (K : om_V → Prop) : om_rg (om_O s q) 97 4 3 K = K (.inl (q 6)) := rfl
theorem rO_97 : om_rv (om_O s q) 97 4 = True := om_rv_eq rfl
theorem aO_99 (z : Int) : om_ab (om_O s q) 99 20 z = (0 ≤ z ∧ z < 85) := om_ab_eq rfl
theorem aO_100 (z : Int) : om_ab (om_O s q) 100 20 z = (0 ≤ z ∧ z < 961) := om_ab_eq rfl
theorem gO_101_0 (K : om_V → Prop) : om_rg (om_O s q) 101 9 0 K = K (.inl (if s = 0 then 1 else 0)) := rfl
theorem gO_101_1 (K : om_V → Prop) : om_rg (om_O s q) 101 9 1 K = K (.inr (.inl 102)) := rfl
theorem gO_101_2 (K : om_V → Prop) : om_rg (om_O s q) 101 9 2 K = K (.inr (.inl 103)) := rfl
theorem gO_101_3 (K : om_V → Prop) : om_rg (om_O s q) 101 9 3 K = K (.inl (q 7)) := rfl
theorem gO_101_4 (K : om_V → Prop) : om_rg (om_O s q) 101 9 4 K = K (.inr (.inl 104)) := rfl
theorem gO_101_5 (K : om_V → Prop) : om_rg (om_O s q) 101 9 5 K = K (.inr (.inl 105)) := rfl
theorem gO_101_6 (K : om_V → Prop) : om_rg (om_O s q) 101 9 6 K = K (.inr (.inl 106)) := rfl
theorem gO_101_7 (K : om_V → Prop) : om_rg (om_O s q) 101 9 7 K = K (.inl (q 8)) := rfl
theorem gO_101_8 (K : om_V → Prop) : om_rg (om_O s q) 101 9 8 K = K (.inl (q 9)) := rfl
theorem gO_101_9 (K : om_V → Prop) : om_rg (om_O s q) 101 9 9 K = K (.inl (q 10)) := rfl
theorem gO_101_10 (K : om_V → Prop) : om_rg (om_O s q) 101 9 10 K = K (.inr (.inl 107)) := rfl
theorem gO_101_11 (K : om_V → Prop) : om_rg (om_O s q) 101 9 11 K = K (.inl (q 11)) := rfl
theorem gO_101_12 (K : om_V → Prop) : om_rg (om_O s q) 101 9 12 K = K (.inr (.inl 108)) := rfl
theorem gO_101_13 (K : om_V → Prop) : om_rg (om_O s q) 101 9 13 K = K (.inr (.inl 109)) := rfl
theorem gO_101_14 (K : om_V → Prop) : om_rg (om_O s q) 101 9 14 K = K (.inr (.inl 110)) := rfl
theorem gO_101_15 (K : om_V → Prop) : om_rg (om_O s q) 101 9 15 K = K (.inr (.inl 111)) := rfl
theorem gO_101_16 (K : om_V → Prop) : om_rg (om_O s q) 101 9 16 K = K (.inl (q 12)) := rfl
theorem gO_101_17 (K : om_V → Prop) : om_rg (om_O s q) 101 9 17 K = K (.inr (.inl 112)) := rfl
theorem gO_101_18 (K : om_V → Prop) : om_rg (om_O s q) 101 9 18 K = K (.inr (.inl 113)) := rfl
theorem gO_101_19 (K : om_V → Prop) : om_rg (om_O s q) 101 9 19 K = K (.inr (.inl 114)) := rfl
theorem gO_101_20 (K : om_V → Prop) : om_rg (om_O s q) 101 9 20 K = K (.inr (.inl 115)) := rfl
theorem gO_101_21 (K : om_V → Prop) : om_rg (om_O s q) 101 9 21 K = K (.inr (.inl 116)) := rfl
theorem gO_101_22 (K : om_V → Prop) : om_rg (om_O s q) 101 9 22 K = K (.inr (.inl 117)) := rfl
theorem rO_101 : om_rv (om_O s q) 101 9 = True := om_rv_eq rfl
theorem aO_102 (z : Int) : om_ab (om_O s q) 102 20 z = (0 ≤ z ∧ z < 1170) := om_ab_eq rfl
theorem aO_103 (z : Int) : om_ab (om_O s q) 103 20 z = (0 ≤ z ∧ z < 3456) := om_ab_eq rfl
theorem aO_104 (z : Int) : om_ab (om_O s q) 104 20 z = (0 ≤ z ∧ z < 40) := om_ab_eq rfl
theorem aO_105 (z : Int) : om_ab (om_O s q) 105 20 z = (0 ≤ z ∧ z < 5) := om_ab_eq rfl
theorem aO_106 (z : Int) : om_ab (om_O s q) 106 22 z = (0 ≤ z ∧ z < 5) := om_ab_eq rfl
theorem aO_107 (z : Int) : om_ab (om_O s q) 107 20 z = (0 ≤ z ∧ z < 700) := om_ab_eq rfl
theorem aO_108 (z : Int) : om_ab (om_O s q) 108 20 z = (0 ≤ z ∧ z < 182) := om_ab_eq rfl
theorem aO_109 (z : Int) : om_ab (om_O s q) 109 20 z = (0 ≤ z ∧ z < 325) := om_ab_eq rfl
theorem aO_110 (z : Int) : om_ab (om_O s q) 110 20 z = (0 ≤ z ∧ z < 169) := om_ab_eq rfl
theorem aO_111 (z : Int) : om_ab (om_O s q) 111 20 z = (0 ≤ z ∧ z < 13) := om_ab_eq rfl
theorem aO_112 (z : Int) : om_ab (om_O s q) 112 20 z = (0 ≤ z ∧ z < 25) := om_ab_eq rfl
theorem aO_113 (z : Int) : om_ab (om_O s q) 113 20 z = (0 ≤ z ∧ z < 13) := om_ab_eq rfl
theorem aO_114 (z : Int) : om_ab (om_O s q) 114 22 z = (0 ≤ z ∧ z < 961) := om_ab_eq rfl
theorem aO_115 (z : Int) : om_ab (om_O s q) 115 20 z = (0 ≤ z ∧ z < 24) := om_ab_eq rfl
theorem aO_116 (z : Int) : om_ab (om_O s q) 116 20 z = (0 ≤ z ∧ z < 9) := om_ab_eq rfl
theorem aO_117 (z : Int) : om_ab (om_O s q) 117 20 z = (0 ≤ z ∧ z < 8) := om_ab_eq rfl
theorem pO_2_1 (mi : Nat) (v : Int) (hf : om_fit mi 6 1 (.inl v) = true) (K : List (Nat × Nat × List om_V) → Prop) : om_rp (om_O s q) mi 2 6 1 (.inl v) K = K (om_O s (om_qs q 0 v)) := om_rp_eq (n := 2) (vs := [.inr (.inl 3), .inl (q 0)]) rfl (by decide) (show 1 < 2 by decide) hf
theorem pO_25_2 (mi : Nat) (v : Int) (hf : om_fit mi 7 2 (.inl v) = true) (K : List (Nat × Nat × List om_V) → Prop) : om_rp (om_O s q) mi 25 7 2 (.inl v) K = K (om_O s (om_qs q 1 v)) := om_rp_eq (n := 10) (vs := [.inr (.inl 20), .inr (.inl 26), .inl (q 1), .inl (q 2), .inl (q 3), .inl (q 4), .inr (.inl 27), .inr (.inl 28), .inr (.inl 29), .inr (.inl 30)]) rfl (by decide) (show 2 < 10 by decide) hf
theorem pO_25_3 (mi : Nat) (v : Int) (hf : om_fit mi 7 3 (.inl v) = true) (K : List (Nat × Nat × List om_V) → Prop) : om_rp (om_O s q) mi 25 7 3 (.inl v) K = K (om_O s (om_qs q 2 v)) := om_rp_eq (n := 10) (vs := [.inr (.inl 20), .inr (.inl 26), .inl (q 1), .inl (q 2), .inl (q 3), .inl (q 4), .inr (.inl 27), .inr (.inl 28), .inr (.inl 29), .inr (.inl 30)]) rfl (by decide) (show 3 < 10 by decide) hf
theorem pO_25_4 (mi : Nat) (v : Int) (hf : om_fit mi 7 4 (.inl v) = true) (K : List (Nat × Nat × List om_V) → Prop) : om_rp (om_O s q) mi 25 7 4 (.inl v) K = K (om_O s (om_qs q 3 v)) := om_rp_eq (n := 10) (vs := [.inr (.inl 20), .inr (.inl 26), .inl (q 1), .inl (q 2), .inl (q 3), .inl (q 4), .inr (.inl 27), .inr (.inl 28), .inr (.inl 29), .inr (.inl 30)]) rfl (by decide) (show 4 < 10 by decide) hf
theorem pO_25_5 (mi : Nat) (v : Int) (hf : om_fit mi 7 5 (.inl v) = true) (K : List (Nat × Nat × List om_V) → Prop) : om_rp (om_O s q) mi 25 7 5 (.inl v) K = K (om_O s (om_qs q 4 v)) := om_rp_eq (n := 10) (vs := [.inr (.inl 20), .inr (.inl 26), .inl (q 1), .inl (q 2), .inl (q 3), .inl (q 4), .inr (.inl 27), .inr (.inl 28), .inr (.inl 29), .inr (.inl 30)]) rfl (by decide) (show 5 < 10 by decide) hf
theorem pO_89_5 (mi : Nat) (v : Int) (hf : om_fit mi 2 5 (.inl v) = true) (K : List (Nat × Nat × List om_V) → Prop) : om_rp (om_O s q) mi 89 2 5 (.inl v) K = K (om_O s (om_qs q 5 v)) := om_rp_eq (n := 6) (vs := [.inr (.inl 20), .inr (.inl 90), .inr (.inl 92), .inr (.inl 94), .inr (.inl 95), .inl (q 5)]) rfl (by decide) (show 5 < 6 by decide) hf
theorem pO_97_3 (mi : Nat) (v : Int) (hf : om_fit mi 4 3 (.inl v) = true) (K : List (Nat × Nat × List om_V) → Prop) : om_rp (om_O s q) mi 97 4 3 (.inl v) K = K (om_O s (om_qs q 6 v)) := om_rp_eq (n := 4) (vs := [.inr (.inl 20), .inr (.inl 98), .inr (.inl 100), .inl (q 6)]) rfl (by decide) (show 3 < 4 by decide) hf
theorem pO_101_3 (mi : Nat) (v : Int) (hf : om_fit mi 9 3 (.inl v) = true) (K : List (Nat × Nat × List om_V) → Prop) : om_rp (om_O s q) mi 101 9 3 (.inl v) K = K (om_O s (om_qs q 7 v)) := om_rp_eq (n := 23) (vs := [.inl (if s = 0 then 1 else 0), .inr (.inl 102), .inr (.inl 103), .inl (q 7), .inr (.inl 104), .inr (.inl 105), .inr (.inl 106), .inl (q 8), .inl (q 9), .inl (q 10), .inr (.inl 107), .inl (q 11), .inr (.inl 108), .inr (.inl 109), .inr (.inl 110), .inr (.inl 111), .inl (q 12), .inr (.inl 112), .inr (.inl 113), .inr (.inl 114), .inr (.inl 115), .inr (.inl 116), .inr (.inl 117)]) rfl (by decide) (show 3 < 23 by decide) hf
theorem pO_101_7 (mi : Nat) (v : Int) (hf : om_fit mi 9 7 (.inl v) = true) (K : List (Nat × Nat × List om_V) → Prop) : om_rp (om_O s q) mi 101 9 7 (.inl v) K = K (om_O s (om_qs q 8 v)) := om_rp_eq (n := 23) (vs := [.inl (if s = 0 then 1 else 0), .inr (.inl 102), .inr (.inl 103), .inl (q 7), .inr (.inl 104), .inr (.inl 105), .inr (.inl 106), .inl (q 8), .inl (q 9), .inl (q 10), .inr (.inl 107), .inl (q 11), .inr (.inl 108), .inr (.inl 109), .inr (.inl 110), .inr (.inl 111), .inl (q 12), .inr (.inl 112), .inr (.inl 113), .inr (.inl 114), .inr (.inl 115), .inr (.inl 116), .inr (.inl 117)]) rfl (by decide) (show 7 < 23 by decide) hf
theorem pO_101_8 (mi : Nat) (v : Int) (hf : om_fit mi 9 8 (.inl v) = true) (K : List (Nat × Nat × List om_V) → Prop) : om_rp (om_O s q) mi 101 9 8 (.inl v) K = K (om_O s (om_qs q 9 v)) := om_rp_eq (n := 23) (vs := [.inl (if s = 0 then 1 else 0), .inr (.inl 102), .inr (.inl 103), .inl (q 7), .inr (.inl 104), .inr (.inl 105), .inr (.inl 106), .inl (q 8), .inl (q 9), .inl (q 10), .inr (.inl 107), .inl (q 11), .inr (.inl 108), .inr (.inl 109), .inr (.inl 110), .inr (.inl 111), .inl (q 12), .inr (.inl 112), .inr (.inl 113), .inr (.inl 114), .inr (.inl 115), .inr (.inl 116), .inr (.inl 117)]) rfl (by decide) (show 8 < 23 by decide) hf
theorem pO_101_9 (mi : Nat) (v : Int) (hf : om_fit mi 9 9 (.inl v) = true) (K : List (Nat × Nat × List om_V) → Prop) : om_rp (om_O s q) mi 101 9 9 (.inl v) K = K (om_O s (om_qs q 10 v)) := om_rp_eq (n := 23) (vs := [.inl (if s = 0 then 1 else 0), .inr (.inl 102), .inr (.inl 103), .inl (q 7), .inr (.inl 104), .inr (.inl 105), .inr (.inl 106), .inl (q 8), .inl (q 9), .inl (q 10), .inr (.inl 107), .inl (q 11), .inr (.inl 108), .inr (.inl 109), .inr (.inl 110), .inr (.inl 111), .inl (q 12), .inr (.inl 112), .inr (.inl 113), .inr (.inl 114), .inr (.inl 115), .inr (.inl 116), .inr (.inl 117)]) rfl (by decide) (show 9 < 23 by decide) hf
theorem pO_101_11 (mi : Nat) (v : Int) (hf : om_fit mi 9 11 (.inl v) = true) (K : List (Nat × Nat × List om_V) → Prop) : om_rp (om_O s q) mi 101 9 11 (.inl v) K = K (om_O s (om_qs q 11 v)) := om_rp_eq (n := 23) (vs := [.inl (if s = 0 then 1 else 0), .inr (.inl 102), .inr (.inl 103), .inl (q 7), .inr (.inl 104), .inr (.inl 105), .inr (.inl 106), .inl (q 8), .inl (q 9), .inl (q 10), .inr (.inl 107), .inl (q 11), .inr (.inl 108), .inr (.inl 109), .inr (.inl 110), .inr (.inl 111), .inl (q 12), .inr (.inl 112), .inr (.inl 113), .inr (.inl 114), .inr (.inl 115), .inr (.inl 116), .inr (.inl 117)]) rfl (by decide) (show 11 < 23 by decide) hf
theorem pO_101_16 (mi : Nat) (v : Int) (hf : om_fit mi 9 16 (.inl v) = true) (K : List (Nat × Nat × List om_V) → Prop) : om_rp (om_O s q) mi 101 9 16 (.inl v) K = K (om_O s (om_qs q 12 v)) := om_rp_eq (n := 23) (vs := [.inl (if s = 0 then 1 else 0), .inr (.inl 102), .inr (.inl 103), .inl (q 7), .inr (.inl 104), .inr (.inl 105), .inr (.inl 106), .inl (q 8), .inl (q 9), .inl (q 10), .inr (.inl 107), .inl (q 11), .inr (.inl 108), .inr (.inl 109), .inr (.inl 110), .inr (.inl 111), .inl (q 12), .inr (.inl 112), .inr (.inl 113), .inr (.inl 114), .inr (.inl 115), .inr (.inl 116), .inr (.inl 117)]) rfl (by decide) (show 16 < 23 by decide) hf
theorem oO_21 : om_op (om_O s q) 21 22 9 25 := ⟨rfl, rfl, by decide, by decide, by decide, by decide⟩
theorem oO_23 : om_op (om_O s q) 23 24 9 25 := ⟨rfl, rfl, by decide, by decide, by decide, by decide⟩
theorem oO_72 : om_op (om_O s q) 72 73 5 13 := ⟨rfl, rfl, by decide, by decide, by decide, by decide⟩
theorem oO_74 : om_op (om_O s q) 74 75 5 25 := ⟨rfl, rfl, by decide, by decide, by decide, by decide⟩
theorem oO_76 : om_op (om_O s q) 76 77 5 13 := ⟨rfl, rfl, by decide, by decide, by decide, by decide⟩
theorem oO_79 : om_op (om_O s q) 79 80 5 61 := ⟨rfl, rfl, by decide, by decide, by decide, by decide⟩
theorem oO_81 : om_op (om_O s q) 81 82 5 61 := ⟨rfl, rfl, by decide, by decide, by decide, by decide⟩
theorem oO_83 : om_op (om_O s q) 83 84 5 61 := ⟨rfl, rfl, by decide, by decide, by decide, by decide⟩
theorem oO_85 : om_op (om_O s q) 85 86 5 61 := ⟨rfl, rfl, by decide, by decide, by decide, by decide⟩
theorem oO_87 : om_op (om_O s q) 87 88 1 13 := ⟨rfl, rfl, by decide, by decide, by decide, by decide⟩
theorem oO_90 : om_op (om_O s q) 90 91 1 13 := ⟨rfl, rfl, by decide, by decide, by decide, by decide⟩
theorem oO_92 : om_op (om_O s q) 92 93 25 14 := ⟨rfl, rfl, by decide, by decide, by decide, by decide⟩
theorem oO_95 : om_op (om_O s q) 95 96 14 13 := ⟨rfl, rfl, by decide, by decide, by decide, by decide⟩
theorem oO_98 : om_op (om_O s q) 98 99 5 17 := ⟨rfl, rfl, by decide, by decide, by decide, by decide⟩
theorem oO_reg {r : Nat} (h : r < 8) : om_op (om_O s q) (4 + 2 * r) (5 + 2 * r) 5 13 := by
  match r, h with
  | 0, _ => exact ⟨rfl, rfl, by decide, by decide, by decide, by decide⟩
  | 1, _ => exact ⟨rfl, rfl, by decide, by decide, by decide, by decide⟩
  | 2, _ => exact ⟨rfl, rfl, by decide, by decide, by decide, by decide⟩
  | 3, _ => exact ⟨rfl, rfl, by decide, by decide, by decide, by decide⟩
  | 4, _ => exact ⟨rfl, rfl, by decide, by decide, by decide, by decide⟩
  | 5, _ => exact ⟨rfl, rfl, by decide, by decide, by decide, by decide⟩
  | 6, _ => exact ⟨rfl, rfl, by decide, by decide, by decide, by decide⟩
  | 7, _ => exact ⟨rfl, rfl, by decide, by decide, by decide, by decide⟩
  | n + 8, h => exact absurd h (by omega)
theorem oO_sum {r : Nat} (h : r < 5) : om_op (om_O s q) (31 + 8 * r) (32 + 8 * r) 5 13 := by
  match r, h with
  | 0, _ => exact ⟨rfl, rfl, by decide, by decide, by decide, by decide⟩
  | 1, _ => exact ⟨rfl, rfl, by decide, by decide, by decide, by decide⟩
  | 2, _ => exact ⟨rfl, rfl, by decide, by decide, by decide, by decide⟩
  | 3, _ => exact ⟨rfl, rfl, by decide, by decide, by decide, by decide⟩
  | 4, _ => exact ⟨rfl, rfl, by decide, by decide, by decide, by decide⟩
  | n + 5, h => exact absurd h (by omega)
theorem oO_prod {r : Nat} (h : r < 5) : om_op (om_O s q) (33 + 8 * r) (34 + 8 * r) 5 13 := by
  match r, h with
  | 0, _ => exact ⟨rfl, rfl, by decide, by decide, by decide, by decide⟩
  | 1, _ => exact ⟨rfl, rfl, by decide, by decide, by decide, by decide⟩
  | 2, _ => exact ⟨rfl, rfl, by decide, by decide, by decide, by decide⟩
  | 3, _ => exact ⟨rfl, rfl, by decide, by decide, by decide, by decide⟩
  | 4, _ => exact ⟨rfl, rfl, by decide, by decide, by decide, by decide⟩
  | n + 5, h => exact absurd h (by omega)
theorem oO_pow {r : Nat} (h : r < 5) : om_op (om_O s q) (35 + 8 * r) (36 + 8 * r) 5 13 := by
  match r, h with
  | 0, _ => exact ⟨rfl, rfl, by decide, by decide, by decide, by decide⟩
  | 1, _ => exact ⟨rfl, rfl, by decide, by decide, by decide, by decide⟩
  | 2, _ => exact ⟨rfl, rfl, by decide, by decide, by decide, by decide⟩
  | 3, _ => exact ⟨rfl, rfl, by decide, by decide, by decide, by decide⟩
  | 4, _ => exact ⟨rfl, rfl, by decide, by decide, by decide, by decide⟩
  | n + 5, h => exact absurd h (by omega)
theorem oO_atom {r : Nat} (h : r < 5) : om_op (om_O s q) (37 + 8 * r) (38 + 8 * r) 5 13 := by
  match r, h with
  | 0, _ => exact ⟨rfl, rfl, by decide, by decide, by decide, by decide⟩
  | 1, _ => exact ⟨rfl, rfl, by decide, by decide, by decide, by decide⟩
  | 2, _ => exact ⟨rfl, rfl, by decide, by decide, by decide, by decide⟩
  | 3, _ => exact ⟨rfl, rfl, by decide, by decide, by decide, by decide⟩
  | 4, _ => exact ⟨rfl, rfl, by decide, by decide, by decide, by decide⟩
  | n + 5, h => exact absurd h (by omega)
theorem kO_reg {z : Int} (h0 : 0 ≤ z) (h1 : z < 8) (K : Nat → Prop) : om_ra (om_O s q) 1 z K = K (4 + 2 * z.toNat) := by
  obtain ⟨r, rfl⟩ := Int.eq_ofNat_of_zero_le h0
  have hr : r < 8 := by omega
  match r, hr with
  | 0, _ => exact om_ra_eq rfl (by decide) (by decide) rfl
  | 1, _ => exact om_ra_eq rfl (by decide) (by decide) rfl
  | 2, _ => exact om_ra_eq rfl (by decide) (by decide) rfl
  | 3, _ => exact om_ra_eq rfl (by decide) (by decide) rfl
  | 4, _ => exact om_ra_eq rfl (by decide) (by decide) rfl
  | 5, _ => exact om_ra_eq rfl (by decide) (by decide) rfl
  | 6, _ => exact om_ra_eq rfl (by decide) (by decide) rfl
  | 7, _ => exact om_ra_eq rfl (by decide) (by decide) rfl
  | n + 8, h => exact absurd h (by omega)
theorem kO_sum {z : Int} (h0 : 0 ≤ z) (h1 : z < 5) (K : Nat → Prop) : om_ra (om_O s q) 27 z K = K (31 + 8 * z.toNat) := by
  obtain ⟨r, rfl⟩ := Int.eq_ofNat_of_zero_le h0
  have hr : r < 5 := by omega
  match r, hr with
  | 0, _ => exact om_ra_eq rfl (by decide) (by decide) rfl
  | 1, _ => exact om_ra_eq rfl (by decide) (by decide) rfl
  | 2, _ => exact om_ra_eq rfl (by decide) (by decide) rfl
  | 3, _ => exact om_ra_eq rfl (by decide) (by decide) rfl
  | 4, _ => exact om_ra_eq rfl (by decide) (by decide) rfl
  | n + 5, h => exact absurd h (by omega)
theorem kO_prod {z : Int} (h0 : 0 ≤ z) (h1 : z < 5) (K : Nat → Prop) : om_ra (om_O s q) 28 z K = K (33 + 8 * z.toNat) := by
  obtain ⟨r, rfl⟩ := Int.eq_ofNat_of_zero_le h0
  have hr : r < 5 := by omega
  match r, hr with
  | 0, _ => exact om_ra_eq rfl (by decide) (by decide) rfl
  | 1, _ => exact om_ra_eq rfl (by decide) (by decide) rfl
  | 2, _ => exact om_ra_eq rfl (by decide) (by decide) rfl
  | 3, _ => exact om_ra_eq rfl (by decide) (by decide) rfl
  | 4, _ => exact om_ra_eq rfl (by decide) (by decide) rfl
  | n + 5, h => exact absurd h (by omega)
theorem kO_pow {z : Int} (h0 : 0 ≤ z) (h1 : z < 5) (K : Nat → Prop) : om_ra (om_O s q) 29 z K = K (35 + 8 * z.toNat) := by
  obtain ⟨r, rfl⟩ := Int.eq_ofNat_of_zero_le h0
  have hr : r < 5 := by omega
  match r, hr with
  | 0, _ => exact om_ra_eq rfl (by decide) (by decide) rfl
  | 1, _ => exact om_ra_eq rfl (by decide) (by decide) rfl
  | 2, _ => exact om_ra_eq rfl (by decide) (by decide) rfl
  | 3, _ => exact om_ra_eq rfl (by decide) (by decide) rfl
  | 4, _ => exact om_ra_eq rfl (by decide) (by decide) rfl
  | n + 5, h => exact absurd h (by omega)
theorem kO_atom {z : Int} (h0 : 0 ≤ z) (h1 : z < 5) (K : Nat → Prop) : om_ra (om_O s q) 30 z K = K (37 + 8 * z.toNat) := by
  obtain ⟨r, rfl⟩ := Int.eq_ofNat_of_zero_le h0
  have hr : r < 5 := by omega
  match r, hr with
  | 0, _ => exact om_ra_eq rfl (by decide) (by decide) rfl
  | 1, _ => exact om_ra_eq rfl (by decide) (by decide) rfl
  | 2, _ => exact om_ra_eq rfl (by decide) (by decide) rfl
  | 3, _ => exact om_ra_eq rfl (by decide) (by decide) rfl
  | 4, _ => exact om_ra_eq rfl (by decide) (by decide) rfl
  | n + 5, h => exact absurd h (by omega)
end om_obj
