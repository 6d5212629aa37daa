/-! printed by wip/whole/gen3.py: the cells behind the constructors -/
def am_SH : List am_Sh := [.inr (9, [some (some 1), none, none, some (some 2), some (some 15), some (some 28), some (some 29), some (some 35), some (some 37), some (some 39), some (some 46), some (some 54), some (some 58)]), .inl (0, 100), .inr (7, [some (some 3), none, some (some 4), some (some 5), some (some 6), some (some 7), some (some 8), some (some 9), some (some 10), some (some 11), some (some 12), none, some (some 13), some (some 14)]), .inl (0, 100), .inl (0, 11), .inl (0, 11), .inl (0, 11), .inl (0, 11), .inl (0, 11), .inl (0, 11), .inl (0, 11), .inl (0, 11), .inl (0, 11), .inl (0, 5), .inl (0, 5), .inr (7, [some (some 16), none, some (some 17), some (some 18), some (some 19), some (some 20), some (some 21), some (some 22), some (some 23), some (some 24), some (some 25), none, some (some 26), some (some 27)]), .inl (0, 100), .inl (0, 11), .inl (0, 11), .inl (0, 11), .inl (0, 11), .inl (0, 11), .inl (0, 11), .inl (0, 11), .inl (0, 11), .inl (0, 11), .inl (0, 5), .inl (0, 5), .inr (8, [some (some 15), none, none, none, none]), .inr (0, [some (some 2), some (some 30), none, some (some 31), some (some 32), some (some 33), some (some 34)]), .inl (0, 22), .inl (0, 6), .inl (0, 6), .inl (0, 22), .inl (0, 11), .inr (6, [some (some 36), none]), .inl (1, 720), .inr (5, [some (some 2), some (some 29), some (some 35), some (some 38)]), .inl (0, 12), .inr (2, [some (some 2), some (some 40), some (some 41), some (some 42), some (some 43), some (some 44), some (some 45)]), .inl (0, 11), .inl (0, 11), .inl (0, 11), .inl (0, 11), .inl (0, 22), .inl (0, 12), .inr (3, [some (some 2), some (some 35), some (some 39), none, some (some 47), some (some 48), some (some 49), some (some 50), some (some 51), some (some 52), some (some 53), none]), .inl (0, 2160), .inl (0, 2160), .inl (0, 720), .inl (2, 720), .inl (0, 720), .inl (0, 720), .inl (0, 720), .inr (4, [some (some 2), some (some 35), some (some 39), none, some (some 55), some (some 56), some (some 57)]), .inl (2, 45), .inl (0, 6), .inl (0, 720), .inr (1, [some (some 2), some (some 39), some (some 59), none]), .inl (0, 106), .inr (10, [none, some (some 61), none, none, none, none, none, none, none, some (some 62), some (some 63), some (some 64), some (some 65), some (some 66), some (some 67), none, none, some (some 68), some (some 69), some (some 70), some (some 71), some (some 72), some (some 73), none, some (some 74), some (some 75), none, some (some 76), some (some 77), none, some (some 78), some (some 79), none, some (some 80), some (some 81), some (some 82), some (some 83), none, some (some 84), none, some (some 85), some (some 86), some (some 87), some (some 88), some (some 89), some (some 90), some (some 91), some (some 92), none, some (some 93), some (some 94)]), .inl (0, 100), .inl (0, 12), .inl (0, 12), .inl (0, 12), .inl (0, 12), .inl (0, 12), .inl (3, 23), .inl (0, 11), .inl (0, 11), .inl (0, 11), .inl (0, 11), .inl (0, 11), .inl (0, 100), .inl (0, 6), .inl (2, 242), .inl (0, 6), .inl (0, 6), .inl (0, 11000), .inl (0, 22000), .inl (0, 11), .inl (0, 11), .inl (2, 11), .inl (0, 24), .inl (0, 400), .inl (0, 12), .inl (0, 12), .inl (0, 22), .inl (0, 4000), .inl (2, 1000), .inl (2, 1000), .inl (0, 1000), .inl (2, 1000), .inl (2, 54), .inl (2, 891), .inl (1, 1)]
theorem am_eqT {a : Nat} {Q : Prop} : (a = a ∧ Q) = Q := propext ⟨And.right, fun h => ⟨rfl, h⟩⟩
section SHL
variable {I : Nat → Nat → Int32} {J : Nat → Nat → Int64}
theorem sg_0_0 (P : Value → Prop) : am_gf (am_SH, I, J) 0 9 0 P = P (.ref 1) := am_eqT
theorem sg_0_1 (P : Value → Prop) : am_gf (am_SH, I, J) 0 9 1 P = P (.int (I 0 1)) := am_eqT
theorem sg_0_2 (P : Value → Prop) : am_gf (am_SH, I, J) 0 9 2 P = P (.int (I 0 2)) := am_eqT
theorem sg_0_3 (P : Value → Prop) : am_gf (am_SH, I, J) 0 9 3 P = P (.ref 2) := am_eqT
theorem sg_0_4 (P : Value → Prop) : am_gf (am_SH, I, J) 0 9 4 P = P (.ref 15) := am_eqT
theorem sg_0_5 (P : Value → Prop) : am_gf (am_SH, I, J) 0 9 5 P = P (.ref 28) := am_eqT
theorem sg_0_6 (P : Value → Prop) : am_gf (am_SH, I, J) 0 9 6 P = P (.ref 29) := am_eqT
theorem sg_0_7 (P : Value → Prop) : am_gf (am_SH, I, J) 0 9 7 P = P (.ref 35) := am_eqT
theorem sg_0_8 (P : Value → Prop) : am_gf (am_SH, I, J) 0 9 8 P = P (.ref 37) := am_eqT
theorem sg_0_9 (P : Value → Prop) : am_gf (am_SH, I, J) 0 9 9 P = P (.ref 39) := am_eqT
theorem sg_0_10 (P : Value → Prop) : am_gf (am_SH, I, J) 0 9 10 P = P (.ref 46) := am_eqT
theorem sg_0_11 (P : Value → Prop) : am_gf (am_SH, I, J) 0 9 11 P = P (.ref 54) := am_eqT
theorem sg_0_12 (P : Value → Prop) : am_gf (am_SH, I, J) 0 9 12 P = P (.ref 58) := am_eqT
theorem so_0 : am_rcv (am_SH, I, J) 9 0 = True := eq_true ⟨_, rfl⟩
theorem sp_0_1 : (∃ fl, am_SH[0]? = some (.inr (9, fl)) ∧ fl[1]? = some none) = True := eq_true ⟨_, rfl, rfl⟩
theorem sp_0_2 : (∃ fl, am_SH[0]? = some (.inr (9, fl)) ∧ fl[2]? = some none) = True := eq_true ⟨_, rfl, rfl⟩
theorem sa_1 (P : Nat → Prop) : am_ar (am_SH, I, J) 1 0 P = P 100 := am_eqT
theorem sg_2_0 (P : Value → Prop) : am_gf (am_SH, I, J) 2 7 0 P = P (.ref 3) := am_eqT
theorem sg_2_1 (P : Value → Prop) : am_gf (am_SH, I, J) 2 7 1 P = P (.int (I 2 1)) := am_eqT
theorem sg_2_2 (P : Value → Prop) : am_gf (am_SH, I, J) 2 7 2 P = P (.ref 4) := am_eqT
theorem sg_2_3 (P : Value → Prop) : am_gf (am_SH, I, J) 2 7 3 P = P (.ref 5) := am_eqT
theorem sg_2_4 (P : Value → Prop) : am_gf (am_SH, I, J) 2 7 4 P = P (.ref 6) := am_eqT
theorem sg_2_5 (P : Value → Prop) : am_gf (am_SH, I, J) 2 7 5 P = P (.ref 7) := am_eqT
theorem sg_2_6 (P : Value → Prop) : am_gf (am_SH, I, J) 2 7 6 P = P (.ref 8) := am_eqT
theorem sg_2_7 (P : Value → Prop) : am_gf (am_SH, I, J) 2 7 7 P = P (.ref 9) := am_eqT
theorem sg_2_8 (P : Value → Prop) : am_gf (am_SH, I, J) 2 7 8 P = P (.ref 10) := am_eqT
theorem sg_2_9 (P : Value → Prop) : am_gf (am_SH, I, J) 2 7 9 P = P (.ref 11) := am_eqT
theorem sg_2_10 (P : Value → Prop) : am_gf (am_SH, I, J) 2 7 10 P = P (.ref 12) := am_eqT
theorem sg_2_11 (P : Value → Prop) : am_gf (am_SH, I, J) 2 7 11 P = P (.int (I 2 11)) := am_eqT
theorem sg_2_12 (P : Value → Prop) : am_gf (am_SH, I, J) 2 7 12 P = P (.ref 13) := am_eqT
theorem sg_2_13 (P : Value → Prop) : am_gf (am_SH, I, J) 2 7 13 P = P (.ref 14) := am_eqT
theorem so_2 : am_rcv (am_SH, I, J) 7 2 = True := eq_true ⟨_, rfl⟩
theorem sp_2_1 : (∃ fl, am_SH[2]? = some (.inr (7, fl)) ∧ fl[1]? = some none) = True := eq_true ⟨_, rfl, rfl⟩
theorem sp_2_11 : (∃ fl, am_SH[2]? = some (.inr (7, fl)) ∧ fl[11]? = some none) = True := eq_true ⟨_, rfl, rfl⟩
theorem sa_3 (P : Nat → Prop) : am_ar (am_SH, I, J) 3 0 P = P 100 := am_eqT
theorem sa_4 (P : Nat → Prop) : am_ar (am_SH, I, J) 4 0 P = P 11 := am_eqT
theorem sa_5 (P : Nat → Prop) : am_ar (am_SH, I, J) 5 0 P = P 11 := am_eqT
theorem sa_6 (P : Nat → Prop) : am_ar (am_SH, I, J) 6 0 P = P 11 := am_eqT
theorem sa_7 (P : Nat → Prop) : am_ar (am_SH, I, J) 7 0 P = P 11 := am_eqT
theorem sa_8 (P : Nat → Prop) : am_ar (am_SH, I, J) 8 0 P = P 11 := am_eqT
theorem sa_9 (P : Nat → Prop) : am_ar (am_SH, I, J) 9 0 P = P 11 := am_eqT
theorem sa_10 (P : Nat → Prop) : am_ar (am_SH, I, J) 10 0 P = P 11 := am_eqT
theorem sa_11 (P : Nat → Prop) : am_ar (am_SH, I, J) 11 0 P = P 11 := am_eqT
theorem sa_12 (P : Nat → Prop) : am_ar (am_SH, I, J) 12 0 P = P 11 := am_eqT
theorem sa_13 (P : Nat → Prop) : am_ar (am_SH, I, J) 13 0 P = P 5 := am_eqT
theorem sa_14 (P : Nat → Prop) : am_ar (am_SH, I, J) 14 0 P = P 5 := am_eqT
theorem sg_15_0 (P : Value → Prop) : am_gf (am_SH, I, J) 15 7 0 P = P (.ref 16) := am_eqT
theorem sg_15_1 (P : Value → Prop) : am_gf (am_SH, I, J) 15 7 1 P = P (.int (I 15 1)) := am_eqT
theorem sg_15_2 (P : Value → Prop) : am_gf (am_SH, I, J) 15 7 2 P = P (.ref 17) := am_eqT
theorem sg_15_3 (P : Value → Prop) : am_gf (am_SH, I, J) 15 7 3 P = P (.ref 18) := am_eqT
theorem sg_15_4 (P : Value → Prop) : am_gf (am_SH, I, J) 15 7 4 P = P (.ref 19) := am_eqT
theorem sg_15_5 (P : Value → Prop) : am_gf (am_SH, I, J) 15 7 5 P = P (.ref 20) := am_eqT
theorem sg_15_6 (P : Value → Prop) : am_gf (am_SH, I, J) 15 7 6 P = P (.ref 21) := am_eqT
theorem sg_15_7 (P : Value → Prop) : am_gf (am_SH, I, J) 15 7 7 P = P (.ref 22) := am_eqT
theorem sg_15_8 (P : Value → Prop) : am_gf (am_SH, I, J) 15 7 8 P = P (.ref 23) := am_eqT
theorem sg_15_9 (P : Value → Prop) : am_gf (am_SH, I, J) 15 7 9 P = P (.ref 24) := am_eqT
theorem sg_15_10 (P : Value → Prop) : am_gf (am_SH, I, J) 15 7 10 P = P (.ref 25) := am_eqT
theorem sg_15_11 (P : Value → Prop) : am_gf (am_SH, I, J) 15 7 11 P = P (.int (I 15 11)) := am_eqT
theorem sg_15_12 (P : Value → Prop) : am_gf (am_SH, I, J) 15 7 12 P = P (.ref 26) := am_eqT
theorem sg_15_13 (P : Value → Prop) : am_gf (am_SH, I, J) 15 7 13 P = P (.ref 27) := am_eqT
theorem so_15 : am_rcv (am_SH, I, J) 7 15 = True := eq_true ⟨_, rfl⟩
theorem sp_15_1 : (∃ fl, am_SH[15]? = some (.inr (7, fl)) ∧ fl[1]? = some none) = True := eq_true ⟨_, rfl, rfl⟩
theorem sp_15_11 : (∃ fl, am_SH[15]? = some (.inr (7, fl)) ∧ fl[11]? = some none) = True := eq_true ⟨_, rfl, rfl⟩
theorem sa_16 (P : Nat → Prop) : am_ar (am_SH, I, J) 16 0 P = P 100 := am_eqT
theorem sa_17 (P : Nat → Prop) : am_ar (am_SH, I, J) 17 0 P = P 11 := am_eqT
theorem sa_18 (P : Nat → Prop) : am_ar (am_SH, I, J) 18 0 P = P 11 := am_eqT
theorem sa_19 (P : Nat → Prop) : am_ar (am_SH, I, J) 19 0 P = P 11 := am_eqT
theorem sa_20 (P : Nat → Prop) : am_ar (am_SH, I, J) 20 0 P = P 11 := am_eqT
theorem sa_21 (P : Nat → Prop) : am_ar (am_SH, I, J) 21 0 P = P 11 := am_eqT
theorem sa_22 (P : Nat → Prop) : am_ar (am_SH, I, J) 22 0 P = P 11 := am_eqT
theorem sa_23 (P : Nat → Prop) : am_ar (am_SH, I, J) 23 0 P = P 11 := am_eqT
theorem sa_24 (P : Nat → Prop) : am_ar (am_SH, I, J) 24 0 P = P 11 := am_eqT
theorem sa_25 (P : Nat → Prop) : am_ar (am_SH, I, J) 25 0 P = P 11 := am_eqT
theorem sa_26 (P : Nat → Prop) : am_ar (am_SH, I, J) 26 0 P = P 5 := am_eqT
theorem sa_27 (P : Nat → Prop) : am_ar (am_SH, I, J) 27 0 P = P 5 := am_eqT
theorem sg_28_0 (P : Value → Prop) : am_gf (am_SH, I, J) 28 8 0 P = P (.ref 15) := am_eqT
theorem sg_28_1 (P : Value → Prop) : am_gf (am_SH, I, J) 28 8 1 P = P (.int (I 28 1)) := am_eqT
theorem sg_28_2 (P : Value → Prop) : am_gf (am_SH, I, J) 28 8 2 P = P (.int (I 28 2)) := am_eqT
theorem sg_28_3 (P : Value → Prop) : am_gf (am_SH, I, J) 28 8 3 P = P (.int (I 28 3)) := am_eqT
theorem sg_28_4 (P : Value → Prop) : am_gf (am_SH, I, J) 28 8 4 P = P (.int (I 28 4)) := am_eqT
theorem so_28 : am_rcv (am_SH, I, J) 8 28 = True := eq_true ⟨_, rfl⟩
theorem sp_28_1 : (∃ fl, am_SH[28]? = some (.inr (8, fl)) ∧ fl[1]? = some none) = True := eq_true ⟨_, rfl, rfl⟩
theorem sp_28_2 : (∃ fl, am_SH[28]? = some (.inr (8, fl)) ∧ fl[2]? = some none) = True := eq_true ⟨_, rfl, rfl⟩
theorem sp_28_3 : (∃ fl, am_SH[28]? = some (.inr (8, fl)) ∧ fl[3]? = some none) = True := eq_true ⟨_, rfl, rfl⟩
theorem sp_28_4 : (∃ fl, am_SH[28]? = some (.inr (8, fl)) ∧ fl[4]? = some none) = True := eq_true ⟨_, rfl, rfl⟩
theorem sg_29_0 (P : Value → Prop) : am_gf (am_SH, I, J) 29 0 0 P = P (.ref 2) := am_eqT
theorem sg_29_1 (P : Value → Prop) : am_gf (am_SH, I, J) 29 0 1 P = P (.ref 30) := am_eqT
theorem sg_29_2 (P : Value → Prop) : am_gf (am_SH, I, J) 29 0 2 P = P (.int (I 29 2)) := am_eqT
theorem sg_29_3 (P : Value → Prop) : am_gf (am_SH, I, J) 29 0 3 P = P (.ref 31) := am_eqT
theorem sg_29_4 (P : Value → Prop) : am_gf (am_SH, I, J) 29 0 4 P = P (.ref 32) := am_eqT
theorem sg_29_5 (P : Value → Prop) : am_gf (am_SH, I, J) 29 0 5 P = P (.ref 33) := am_eqT
theorem sg_29_6 (P : Value → Prop) : am_gf (am_SH, I, J) 29 0 6 P = P (.ref 34) := am_eqT
theorem so_29 : am_rcv (am_SH, I, J) 0 29 = True := eq_true ⟨_, rfl⟩
theorem sp_29_2 : (∃ fl, am_SH[29]? = some (.inr (0, fl)) ∧ fl[2]? = some none) = True := eq_true ⟨_, rfl, rfl⟩
theorem sa_30 (P : Nat → Prop) : am_ar (am_SH, I, J) 30 0 P = P 22 := am_eqT
theorem sa_31 (P : Nat → Prop) : am_ar (am_SH, I, J) 31 0 P = P 6 := am_eqT
theorem sa_32 (P : Nat → Prop) : am_ar (am_SH, I, J) 32 0 P = P 6 := am_eqT
theorem sa_33 (P : Nat → Prop) : am_ar (am_SH, I, J) 33 0 P = P 22 := am_eqT
theorem sa_34 (P : Nat → Prop) : am_ar (am_SH, I, J) 34 0 P = P 11 := am_eqT
theorem sg_35_0 (P : Value → Prop) : am_gf (am_SH, I, J) 35 6 0 P = P (.ref 36) := am_eqT
theorem sg_35_1 (P : Value → Prop) : am_gf (am_SH, I, J) 35 6 1 P = P (.int (I 35 1)) := am_eqT
theorem so_35 : am_rcv (am_SH, I, J) 6 35 = True := eq_true ⟨_, rfl⟩
theorem sp_35_1 : (∃ fl, am_SH[35]? = some (.inr (6, fl)) ∧ fl[1]? = some none) = True := eq_true ⟨_, rfl, rfl⟩
theorem sa_36 (P : Nat → Prop) : am_ar (am_SH, I, J) 36 1 P = P 720 := am_eqT
theorem sg_37_0 (P : Value → Prop) : am_gf (am_SH, I, J) 37 5 0 P = P (.ref 2) := am_eqT
theorem sg_37_1 (P : Value → Prop) : am_gf (am_SH, I, J) 37 5 1 P = P (.ref 29) := am_eqT
theorem sg_37_2 (P : Value → Prop) : am_gf (am_SH, I, J) 37 5 2 P = P (.ref 35) := am_eqT
theorem sg_37_3 (P : Value → Prop) : am_gf (am_SH, I, J) 37 5 3 P = P (.ref 38) := am_eqT
theorem so_37 : am_rcv (am_SH, I, J) 5 37 = True := eq_true ⟨_, rfl⟩
theorem sa_38 (P : Nat → Prop) : am_ar (am_SH, I, J) 38 0 P = P 12 := am_eqT
theorem sg_39_0 (P : Value → Prop) : am_gf (am_SH, I, J) 39 2 0 P = P (.ref 2) := am_eqT
theorem sg_39_1 (P : Value → Prop) : am_gf (am_SH, I, J) 39 2 1 P = P (.ref 40) := am_eqT
theorem sg_39_2 (P : Value → Prop) : am_gf (am_SH, I, J) 39 2 2 P = P (.ref 41) := am_eqT
theorem sg_39_3 (P : Value → Prop) : am_gf (am_SH, I, J) 39 2 3 P = P (.ref 42) := am_eqT
theorem sg_39_4 (P : Value → Prop) : am_gf (am_SH, I, J) 39 2 4 P = P (.ref 43) := am_eqT
theorem sg_39_5 (P : Value → Prop) : am_gf (am_SH, I, J) 39 2 5 P = P (.ref 44) := am_eqT
theorem sg_39_6 (P : Value → Prop) : am_gf (am_SH, I, J) 39 2 6 P = P (.ref 45) := am_eqT
theorem so_39 : am_rcv (am_SH, I, J) 2 39 = True := eq_true ⟨_, rfl⟩
theorem sa_40 (P : Nat → Prop) : am_ar (am_SH, I, J) 40 0 P = P 11 := am_eqT
theorem sa_41 (P : Nat → Prop) : am_ar (am_SH, I, J) 41 0 P = P 11 := am_eqT
theorem sa_42 (P : Nat → Prop) : am_ar (am_SH, I, J) 42 0 P = P 11 := am_eqT
theorem sa_43 (P : Nat → Prop) : am_ar (am_SH, I, J) 43 0 P = P 11 := am_eqT
theorem sa_44 (P : Nat → Prop) : am_ar (am_SH, I, J) 44 0 P = P 22 := am_eqT
theorem sa_45 (P : Nat → Prop) : am_ar (am_SH, I, J) 45 0 P = P 12 := am_eqT
theorem sg_46_0 (P : Value → Prop) : am_gf (am_SH, I, J) 46 3 0 P = P (.ref 2) := am_eqT
theorem sg_46_1 (P : Value → Prop) : am_gf (am_SH, I, J) 46 3 1 P = P (.ref 35) := am_eqT
theorem sg_46_2 (P : Value → Prop) : am_gf (am_SH, I, J) 46 3 2 P = P (.ref 39) := am_eqT
theorem sg_46_3 (P : Value → Prop) : am_gf (am_SH, I, J) 46 3 3 P = P (.int (I 46 3)) := am_eqT
theorem sg_46_4 (P : Value → Prop) : am_gf (am_SH, I, J) 46 3 4 P = P (.ref 47) := am_eqT
theorem sg_46_5 (P : Value → Prop) : am_gf (am_SH, I, J) 46 3 5 P = P (.ref 48) := am_eqT
theorem sg_46_6 (P : Value → Prop) : am_gf (am_SH, I, J) 46 3 6 P = P (.ref 49) := am_eqT
theorem sg_46_7 (P : Value → Prop) : am_gf (am_SH, I, J) 46 3 7 P = P (.ref 50) := am_eqT
theorem sg_46_8 (P : Value → Prop) : am_gf (am_SH, I, J) 46 3 8 P = P (.ref 51) := am_eqT
theorem sg_46_9 (P : Value → Prop) : am_gf (am_SH, I, J) 46 3 9 P = P (.ref 52) := am_eqT
theorem sg_46_10 (P : Value → Prop) : am_gf (am_SH, I, J) 46 3 10 P = P (.ref 53) := am_eqT
theorem sg_46_11 (P : Value → Prop) : am_gf (am_SH, I, J) 46 3 11 P = P (.int (I 46 11)) := am_eqT
theorem so_46 : am_rcv (am_SH, I, J) 3 46 = True := eq_true ⟨_, rfl⟩
theorem sp_46_3 : (∃ fl, am_SH[46]? = some (.inr (3, fl)) ∧ fl[3]? = some none) = True := eq_true ⟨_, rfl, rfl⟩
theorem sp_46_11 : (∃ fl, am_SH[46]? = some (.inr (3, fl)) ∧ fl[11]? = some none) = True := eq_true ⟨_, rfl, rfl⟩
theorem sa_47 (P : Nat → Prop) : am_ar (am_SH, I, J) 47 0 P = P 2160 := am_eqT
theorem sa_48 (P : Nat → Prop) : am_ar (am_SH, I, J) 48 0 P = P 2160 := am_eqT
theorem sa_49 (P : Nat → Prop) : am_ar (am_SH, I, J) 49 0 P = P 720 := am_eqT
theorem sa_50 (P : Nat → Prop) : am_ar (am_SH, I, J) 50 2 P = P 720 := am_eqT
theorem sa_51 (P : Nat → Prop) : am_ar (am_SH, I, J) 51 0 P = P 720 := am_eqT
theorem sa_52 (P : Nat → Prop) : am_ar (am_SH, I, J) 52 0 P = P 720 := am_eqT
theorem sa_53 (P : Nat → Prop) : am_ar (am_SH, I, J) 53 0 P = P 720 := am_eqT
theorem sg_54_0 (P : Value → Prop) : am_gf (am_SH, I, J) 54 4 0 P = P (.ref 2) := am_eqT
theorem sg_54_1 (P : Value → Prop) : am_gf (am_SH, I, J) 54 4 1 P = P (.ref 35) := am_eqT
theorem sg_54_2 (P : Value → Prop) : am_gf (am_SH, I, J) 54 4 2 P = P (.ref 39) := am_eqT
theorem sg_54_3 (P : Value → Prop) : am_gf (am_SH, I, J) 54 4 3 P = P (.int (I 54 3)) := am_eqT
theorem sg_54_4 (P : Value → Prop) : am_gf (am_SH, I, J) 54 4 4 P = P (.ref 55) := am_eqT
theorem sg_54_5 (P : Value → Prop) : am_gf (am_SH, I, J) 54 4 5 P = P (.ref 56) := am_eqT
theorem sg_54_6 (P : Value → Prop) : am_gf (am_SH, I, J) 54 4 6 P = P (.ref 57) := am_eqT
theorem so_54 : am_rcv (am_SH, I, J) 4 54 = True := eq_true ⟨_, rfl⟩
theorem sp_54_3 : (∃ fl, am_SH[54]? = some (.inr (4, fl)) ∧ fl[3]? = some none) = True := eq_true ⟨_, rfl, rfl⟩
theorem sa_55 (P : Nat → Prop) : am_ar (am_SH, I, J) 55 2 P = P 45 := am_eqT
theorem sa_56 (P : Nat → Prop) : am_ar (am_SH, I, J) 56 0 P = P 6 := am_eqT
theorem sa_57 (P : Nat → Prop) : am_ar (am_SH, I, J) 57 0 P = P 720 := am_eqT
theorem sg_58_0 (P : Value → Prop) : am_gf (am_SH, I, J) 58 1 0 P = P (.ref 2) := am_eqT
theorem sg_58_1 (P : Value → Prop) : am_gf (am_SH, I, J) 58 1 1 P = P (.ref 39) := am_eqT
theorem sg_58_2 (P : Value → Prop) : am_gf (am_SH, I, J) 58 1 2 P = P (.ref 59) := am_eqT
theorem sg_58_3 (P : Value → Prop) : am_gf (am_SH, I, J) 58 1 3 P = P (.int (I 58 3)) := am_eqT
theorem so_58 : am_rcv (am_SH, I, J) 1 58 = True := eq_true ⟨_, rfl⟩
theorem sp_58_3 : (∃ fl, am_SH[58]? = some (.inr (1, fl)) ∧ fl[3]? = some none) = True := eq_true ⟨_, rfl, rfl⟩
theorem sa_59 (P : Nat → Prop) : am_ar (am_SH, I, J) 59 0 P = P 106 := am_eqT
theorem sg_60_0 (P : Value → Prop) : am_gf (am_SH, I, J) 60 10 0 P = P (.int (I 60 0)) := am_eqT
theorem sg_60_1 (P : Value → Prop) : am_gf (am_SH, I, J) 60 10 1 P = P (.ref 61) := am_eqT
theorem sg_60_2 (P : Value → Prop) : am_gf (am_SH, I, J) 60 10 2 P = P (.int (I 60 2)) := am_eqT
theorem sg_60_3 (P : Value → Prop) : am_gf (am_SH, I, J) 60 10 3 P = P (.int (I 60 3)) := am_eqT
theorem sg_60_4 (P : Value → Prop) : am_gf (am_SH, I, J) 60 10 4 P = P (.int (I 60 4)) := am_eqT
theorem sg_60_5 (P : Value → Prop) : am_gf (am_SH, I, J) 60 10 5 P = P (.int (I 60 5)) := am_eqT
theorem sg_60_6 (P : Value → Prop) : am_gf (am_SH, I, J) 60 10 6 P = P (.int (I 60 6)) := am_eqT
theorem sg_60_7 (P : Value → Prop) : am_gf (am_SH, I, J) 60 10 7 P = P (.int (I 60 7)) := am_eqT
theorem sg_60_8 (P : Value → Prop) : am_gf (am_SH, I, J) 60 10 8 P = P (.int (I 60 8)) := am_eqT
theorem sg_60_9 (P : Value → Prop) : am_gf (am_SH, I, J) 60 10 9 P = P (.ref 62) := am_eqT
theorem sg_60_10 (P : Value → Prop) : am_gf (am_SH, I, J) 60 10 10 P = P (.ref 63) := am_eqT
theorem sg_60_11 (P : Value → Prop) : am_gf (am_SH, I, J) 60 10 11 P = P (.ref 64) := am_eqT
theorem sg_60_12 (P : Value → Prop) : am_gf (am_SH, I, J) 60 10 12 P = P (.ref 65) := am_eqT
theorem sg_60_13 (P : Value → Prop) : am_gf (am_SH, I, J) 60 10 13 P = P (.ref 66) := am_eqT
theorem sg_60_14 (P : Value → Prop) : am_gf (am_SH, I, J) 60 10 14 P = P (.ref 67) := am_eqT
theorem sg_60_15 (P : Value → Prop) : am_gf (am_SH, I, J) 60 10 15 P = P (.int (I 60 15)) := am_eqT
theorem sg_60_16 (P : Value → Prop) : am_gf (am_SH, I, J) 60 10 16 P = P (.int (I 60 16)) := am_eqT
theorem sg_60_17 (P : Value → Prop) : am_gf (am_SH, I, J) 60 10 17 P = P (.ref 68) := am_eqT
theorem sg_60_18 (P : Value → Prop) : am_gf (am_SH, I, J) 60 10 18 P = P (.ref 69) := am_eqT
theorem sg_60_19 (P : Value → Prop) : am_gf (am_SH, I, J) 60 10 19 P = P (.ref 70) := am_eqT
theorem sg_60_20 (P : Value → Prop) : am_gf (am_SH, I, J) 60 10 20 P = P (.ref 71) := am_eqT
theorem sg_60_21 (P : Value → Prop) : am_gf (am_SH, I, J) 60 10 21 P = P (.ref 72) := am_eqT
theorem sg_60_22 (P : Value → Prop) : am_gf (am_SH, I, J) 60 10 22 P = P (.ref 73) := am_eqT
theorem sg_60_23 (P : Value → Prop) : am_gf (am_SH, I, J) 60 10 23 P = P (.int (I 60 23)) := am_eqT
theorem sg_60_24 (P : Value → Prop) : am_gf (am_SH, I, J) 60 10 24 P = P (.ref 74) := am_eqT
theorem sg_60_25 (P : Value → Prop) : am_gf (am_SH, I, J) 60 10 25 P = P (.ref 75) := am_eqT
theorem sg_60_26 (P : Value → Prop) : am_gf (am_SH, I, J) 60 10 26 P = P (.int (I 60 26)) := am_eqT
theorem sg_60_27 (P : Value → Prop) : am_gf (am_SH, I, J) 60 10 27 P = P (.ref 76) := am_eqT
theorem sg_60_28 (P : Value → Prop) : am_gf (am_SH, I, J) 60 10 28 P = P (.ref 77) := am_eqT
theorem sg_60_29 (P : Value → Prop) : am_gf (am_SH, I, J) 60 10 29 P = P (.int (I 60 29)) := am_eqT
theorem sg_60_30 (P : Value → Prop) : am_gf (am_SH, I, J) 60 10 30 P = P (.ref 78) := am_eqT
theorem sg_60_31 (P : Value → Prop) : am_gf (am_SH, I, J) 60 10 31 P = P (.ref 79) := am_eqT
theorem sg_60_32 (P : Value → Prop) : am_gf (am_SH, I, J) 60 10 32 P = P (.int (I 60 32)) := am_eqT
theorem sg_60_33 (P : Value → Prop) : am_gf (am_SH, I, J) 60 10 33 P = P (.ref 80) := am_eqT
theorem sg_60_34 (P : Value → Prop) : am_gf (am_SH, I, J) 60 10 34 P = P (.ref 81) := am_eqT
theorem sg_60_35 (P : Value → Prop) : am_gf (am_SH, I, J) 60 10 35 P = P (.ref 82) := am_eqT
theorem sg_60_36 (P : Value → Prop) : am_gf (am_SH, I, J) 60 10 36 P = P (.ref 83) := am_eqT
theorem sg_60_37 (P : Value → Prop) : am_gf (am_SH, I, J) 60 10 37 P = P (.int (I 60 37)) := am_eqT
theorem sg_60_38 (P : Value → Prop) : am_gf (am_SH, I, J) 60 10 38 P = P (.ref 84) := am_eqT
theorem sg_60_39 (P : Value → Prop) : am_gf (am_SH, I, J) 60 10 39 P = P (.int (I 60 39)) := am_eqT
theorem sg_60_40 (P : Value → Prop) : am_gf (am_SH, I, J) 60 10 40 P = P (.ref 85) := am_eqT
theorem sg_60_41 (P : Value → Prop) : am_gf (am_SH, I, J) 60 10 41 P = P (.ref 86) := am_eqT
theorem sg_60_42 (P : Value → Prop) : am_gf (am_SH, I, J) 60 10 42 P = P (.ref 87) := am_eqT
theorem sg_60_43 (P : Value → Prop) : am_gf (am_SH, I, J) 60 10 43 P = P (.ref 88) := am_eqT
theorem sg_60_44 (P : Value → Prop) : am_gf (am_SH, I, J) 60 10 44 P = P (.ref 89) := am_eqT
theorem sg_60_45 (P : Value → Prop) : am_gf (am_SH, I, J) 60 10 45 P = P (.ref 90) := am_eqT
theorem sg_60_46 (P : Value → Prop) : am_gf (am_SH, I, J) 60 10 46 P = P (.ref 91) := am_eqT
theorem sg_60_47 (P : Value → Prop) : am_gf (am_SH, I, J) 60 10 47 P = P (.ref 92) := am_eqT
theorem sg_60_48 (P : Value → Prop) : am_gf (am_SH, I, J) 60 10 48 P = P (.int (I 60 48)) := am_eqT
theorem sg_60_49 (P : Value → Prop) : am_gf (am_SH, I, J) 60 10 49 P = P (.ref 93) := am_eqT
theorem sg_60_50 (P : Value → Prop) : am_gf (am_SH, I, J) 60 10 50 P = P (.ref 94) := am_eqT
theorem so_60 : am_rcv (am_SH, I, J) 10 60 = True := eq_true ⟨_, rfl⟩
theorem sp_60_0 : (∃ fl, am_SH[60]? = some (.inr (10, fl)) ∧ fl[0]? = some none) = True := eq_true ⟨_, rfl, rfl⟩
theorem sp_60_2 : (∃ fl, am_SH[60]? = some (.inr (10, fl)) ∧ fl[2]? = some none) = True := eq_true ⟨_, rfl, rfl⟩
theorem sp_60_3 : (∃ fl, am_SH[60]? = some (.inr (10, fl)) ∧ fl[3]? = some none) = True := eq_true ⟨_, rfl, rfl⟩
theorem sp_60_4 : (∃ fl, am_SH[60]? = some (.inr (10, fl)) ∧ fl[4]? = some none) = True := eq_true ⟨_, rfl, rfl⟩
theorem sp_60_5 : (∃ fl, am_SH[60]? = some (.inr (10, fl)) ∧ fl[5]? = some none) = True := eq_true ⟨_, rfl, rfl⟩
theorem sp_60_6 : (∃ fl, am_SH[60]? = some (.inr (10, fl)) ∧ fl[6]? = some none) = True := eq_true ⟨_, rfl, rfl⟩
theorem sp_60_7 : (∃ fl, am_SH[60]? = some (.inr (10, fl)) ∧ fl[7]? = some none) = True := eq_true ⟨_, rfl, rfl⟩
theorem sp_60_8 : (∃ fl, am_SH[60]? = some (.inr (10, fl)) ∧ fl[8]? = some none) = True := eq_true ⟨_, rfl, rfl⟩
theorem sp_60_15 : (∃ fl, am_SH[60]? = some (.inr (10, fl)) ∧ fl[15]? = some none) = True := eq_true ⟨_, rfl, rfl⟩
theorem sp_60_16 : (∃ fl, am_SH[60]? = some (.inr (10, fl)) ∧ fl[16]? = some none) = True := eq_true ⟨_, rfl, rfl⟩
theorem sp_60_23 : (∃ fl, am_SH[60]? = some (.inr (10, fl)) ∧ fl[23]? = some none) = True := eq_true ⟨_, rfl, rfl⟩
theorem sp_60_26 : (∃ fl, am_SH[60]? = some (.inr (10, fl)) ∧ fl[26]? = some none) = True := eq_true ⟨_, rfl, rfl⟩
theorem sp_60_29 : (∃ fl, am_SH[60]? = some (.inr (10, fl)) ∧ fl[29]? = some none) = True := eq_true ⟨_, rfl, rfl⟩
theorem sp_60_32 : (∃ fl, am_SH[60]? = some (.inr (10, fl)) ∧ fl[32]? = some none) = True := eq_true ⟨_, rfl, rfl⟩
theorem sp_60_37 : (∃ fl, am_SH[60]? = some (.inr (10, fl)) ∧ fl[37]? = some none) = True := eq_true ⟨_, rfl, rfl⟩
theorem sp_60_39 : (∃ fl, am_SH[60]? = some (.inr (10, fl)) ∧ fl[39]? = some none) = True := eq_true ⟨_, rfl, rfl⟩
theorem sp_60_48 : (∃ fl, am_SH[60]? = some (.inr (10, fl)) ∧ fl[48]? = some none) = True := eq_true ⟨_, rfl, rfl⟩
theorem sa_61 (P : Nat → Prop) : am_ar (am_SH, I, J) 61 0 P = P 100 := am_eqT
theorem sa_62 (P : Nat → Prop) : am_ar (am_SH, I, J) 62 0 P = P 12 := am_eqT
theorem sa_63 (P : Nat → Prop) : am_ar (am_SH, I, J) 63 0 P = P 12 := am_eqT
theorem sa_64 (P : Nat → Prop) : am_ar (am_SH, I, J) 64 0 P = P 12 := am_eqT
theorem sa_65 (P : Nat → Prop) : am_ar (am_SH, I, J) 65 0 P = P 12 := am_eqT
theorem sa_66 (P : Nat → Prop) : am_ar (am_SH, I, J) 66 0 P = P 12 := am_eqT
theorem sa_67 (P : Nat → Prop) : am_ar (am_SH, I, J) 67 3 P = P 23 := am_eqT
theorem sa_68 (P : Nat → Prop) : am_ar (am_SH, I, J) 68 0 P = P 11 := am_eqT
theorem sa_69 (P : Nat → Prop) : am_ar (am_SH, I, J) 69 0 P = P 11 := am_eqT
theorem sa_70 (P : Nat → Prop) : am_ar (am_SH, I, J) 70 0 P = P 11 := am_eqT
theorem sa_71 (P : Nat → Prop) : am_ar (am_SH, I, J) 71 0 P = P 11 := am_eqT
theorem sa_72 (P : Nat → Prop) : am_ar (am_SH, I, J) 72 0 P = P 11 := am_eqT
theorem sa_73 (P : Nat → Prop) : am_ar (am_SH, I, J) 73 0 P = P 100 := am_eqT
theorem sa_74 (P : Nat → Prop) : am_ar (am_SH, I, J) 74 0 P = P 6 := am_eqT
theorem sa_75 (P : Nat → Prop) : am_ar (am_SH, I, J) 75 2 P = P 242 := am_eqT
theorem sa_76 (P : Nat → Prop) : am_ar (am_SH, I, J) 76 0 P = P 6 := am_eqT
theorem sa_77 (P : Nat → Prop) : am_ar (am_SH, I, J) 77 0 P = P 6 := am_eqT
theorem sa_78 (P : Nat → Prop) : am_ar (am_SH, I, J) 78 0 P = P 11000 := am_eqT
theorem sa_79 (P : Nat → Prop) : am_ar (am_SH, I, J) 79 0 P = P 22000 := am_eqT
theorem sa_80 (P : Nat → Prop) : am_ar (am_SH, I, J) 80 0 P = P 11 := am_eqT
theorem sa_81 (P : Nat → Prop) : am_ar (am_SH, I, J) 81 0 P = P 11 := am_eqT
theorem sa_82 (P : Nat → Prop) : am_ar (am_SH, I, J) 82 2 P = P 11 := am_eqT
theorem sa_83 (P : Nat → Prop) : am_ar (am_SH, I, J) 83 0 P = P 24 := am_eqT
theorem sa_84 (P : Nat → Prop) : am_ar (am_SH, I, J) 84 0 P = P 400 := am_eqT
theorem sa_85 (P : Nat → Prop) : am_ar (am_SH, I, J) 85 0 P = P 12 := am_eqT
theorem sa_86 (P : Nat → Prop) : am_ar (am_SH, I, J) 86 0 P = P 12 := am_eqT
theorem sa_87 (P : Nat → Prop) : am_ar (am_SH, I, J) 87 0 P = P 22 := am_eqT
theorem sa_88 (P : Nat → Prop) : am_ar (am_SH, I, J) 88 0 P = P 4000 := am_eqT
theorem sa_89 (P : Nat → Prop) : am_ar (am_SH, I, J) 89 2 P = P 1000 := am_eqT
theorem sa_90 (P : Nat → Prop) : am_ar (am_SH, I, J) 90 2 P = P 1000 := am_eqT
theorem sa_91 (P : Nat → Prop) : am_ar (am_SH, I, J) 91 0 P = P 1000 := am_eqT
theorem sa_92 (P : Nat → Prop) : am_ar (am_SH, I, J) 92 2 P = P 1000 := am_eqT
theorem sa_93 (P : Nat → Prop) : am_ar (am_SH, I, J) 93 2 P = P 54 := am_eqT
theorem sa_94 (P : Nat → Prop) : am_ar (am_SH, I, J) 94 2 P = P 891 := am_eqT
theorem sa_95 (P : Nat → Prop) : am_ar (am_SH, I, J) 95 1 P = P 1 := am_eqT
end SHL
section WPL
variable {E : am_Env} {df : Nat → List (Option (Option Nat))} {B : Nat → List am_I} {n pc e1 e2 e3 : Nat} {r : List am_I} {lv : am_L} {st : List Value} {M : am_M} {c s : Nat}
theorem w_nop : am_wp E df B (n + 1) ((pc, .nop, e1, e2, e3) :: r) lv (st) M c s = (E.1 pc lv st M c s) := rfl
theorem w_swap : am_wp E df B (n + 1) ((pc, .swap, e1, e2, e3) :: r) lv (st) M c s = (am_wp E df B n (B pc) lv st M c s) := rfl
theorem w_iconst {i : Int} : am_wp E df B (n + 1) ((pc, .iconst i, e1, e2, e3) :: r) lv (st) M c s = (am_wp E df B n r (lv) (.int (Int32.ofInt i) :: st) M c s) := rfl
theorem w_bipush {i : Int} : am_wp E df B (n + 1) ((pc, .bipush i, e1, e2, e3) :: r) lv (st) M c s = (am_wp E df B n r (lv) (.int (Int8.ofInt i).toInt32 :: st) M c s) := rfl
theorem w_sipush {i : Int} : am_wp E df B (n + 1) ((pc, .sipush i, e1, e2, e3) :: r) lv (st) M c s = (am_wp E df B n r (lv) (.int (Int16.ofInt i).toInt32 :: st) M c s) := rfl
theorem w_lconst {i : Fin 2} : am_wp E df B (n + 1) ((pc, .lconst i, e1, e2, e3) :: r) lv (st) M c s = (am_wp E df B n r (lv) (.long (Int64.ofNat (i : Nat)) :: st) M c s) := rfl
theorem w_ldc {i : Nat} : am_wp E df B (n + 1) ((pc, .ldc i, e1, e2, e3) :: r) lv (st) M c s = (am_wp E df B n r (lv) (.ref (1000 + e1) :: st) M c s) := rfl
theorem w_ldc_w {i : Nat} : am_wp E df B (n + 1) ((pc, .ldc_w i, e1, e2, e3) :: r) lv (st) M c s = (am_wp E df B n r (lv) (.ref (1000 + e1) :: st) M c s) := rfl
theorem w_ldc2_w {i : Nat} : am_wp E df B (n + 1) ((pc, .ldc2_w i, e1, e2, e3) :: r) lv (st) M c s = (am_wp E df B n r (lv) (.long (Int64.ofNat e1) :: st) M c s) := rfl
theorem w_iload {i : Nat} : am_wp E df B (n + 1) ((pc, .iload i, e1, e2, e3) :: r) lv (st) M c s = (am_ld (am_lk lv i) fun v => am_isI v ∧ am_wp E df B n r lv (v :: st) M c s) := rfl
theorem w_iload_n {i : Fin 4} : am_wp E df B (n + 1) ((pc, .iload_n i, e1, e2, e3) :: r) lv (st) M c s = (am_ld (am_lk lv i) fun v => am_isI v ∧ am_wp E df B n r lv (v :: st) M c s) := rfl
theorem w_lload {i : Nat} : am_wp E df B (n + 1) ((pc, .lload i, e1, e2, e3) :: r) lv (st) M c s = (am_ld (am_lk lv i) fun v => am_isJ v ∧ am_wp E df B n r lv (v :: st) M c s) := rfl
theorem w_lload_n {i : Fin 4} : am_wp E df B (n + 1) ((pc, .lload_n i, e1, e2, e3) :: r) lv (st) M c s = (am_ld (am_lk lv i) fun v => am_isJ v ∧ am_wp E df B n r lv (v :: st) M c s) := rfl
theorem w_aload {i : Nat} : am_wp E df B (n + 1) ((pc, .aload i, e1, e2, e3) :: r) lv (st) M c s = (am_ld (am_lk lv i) fun v => am_isR v ∧ am_wp E df B n r lv (v :: st) M c s) := rfl
theorem w_aload_n {i : Fin 4} : am_wp E df B (n + 1) ((pc, .aload_n i, e1, e2, e3) :: r) lv (st) M c s = (am_ld (am_lk lv i) fun v => am_isR v ∧ am_wp E df B n r lv (v :: st) M c s) := rfl
theorem w_istore {i : Nat} {x : Int32} : am_wp E df B (n + 1) ((pc, .istore i, e1, e2, e3) :: r) lv (.int x :: st) M c s = (am_wp E df B n r (am_st i (.int x) lv) st M c s) := rfl
theorem w_istore_n {i : Fin 4} {x : Int32} : am_wp E df B (n + 1) ((pc, .istore_n i, e1, e2, e3) :: r) lv (.int x :: st) M c s = (am_wp E df B n r (am_st i (.int x) lv) st M c s) := rfl
theorem w_lstore {i : Nat} {x : Int64} : am_wp E df B (n + 1) ((pc, .lstore i, e1, e2, e3) :: r) lv (.long x :: st) M c s = (am_wp E df B n r (am_st2 i (.long x) lv) st M c s) := rfl
theorem w_lstore_n {i : Fin 4} {x : Int64} : am_wp E df B (n + 1) ((pc, .lstore_n i, e1, e2, e3) :: r) lv (.long x :: st) M c s = (am_wp E df B n r (am_st2 i (.long x) lv) st M c s) := rfl
theorem w_astore {i : Nat} {x : Nat} : am_wp E df B (n + 1) ((pc, .astore i, e1, e2, e3) :: r) lv (.ref x :: st) M c s = (am_wp E df B n r (am_st i (.ref x) lv) st M c s) := rfl
theorem w_astore_n {i : Fin 4} {x : Nat} : am_wp E df B (n + 1) ((pc, .astore_n i, e1, e2, e3) :: r) lv (.ref x :: st) M c s = (am_wp E df B n r (am_st i (.ref x) lv) st M c s) := rfl
theorem w_iinc {i : Nat} {d : Int} : am_wp E df B (n + 1) ((pc, .iinc i d, e1, e2, e3) :: r) lv st M c s = (match am_lk lv i with | some (.int x) => am_wp E df B n r (am_st i (.int (x + Int32.ofInt d)) lv) st M c s | _ => False) := rfl
theorem w_iadd {x y : Int32} : am_wp E df B (n + 1) ((pc, .iadd, e1, e2, e3) :: r) lv (.int y :: .int x :: st) M c s = (am_wp E df B n r (lv) (.int (x + y) :: st) M c s) := rfl
theorem w_isub {x y : Int32} : am_wp E df B (n + 1) ((pc, .isub, e1, e2, e3) :: r) lv (.int y :: .int x :: st) M c s = (am_wp E df B n r (lv) (.int (x - y) :: st) M c s) := rfl
theorem w_imul {x y : Int32} : am_wp E df B (n + 1) ((pc, .imul, e1, e2, e3) :: r) lv (.int y :: .int x :: st) M c s = (am_wp E df B n r (lv) (.int (x * y) :: st) M c s) := rfl
theorem w_iand {x y : Int32} : am_wp E df B (n + 1) ((pc, .iand, e1, e2, e3) :: r) lv (.int y :: .int x :: st) M c s = (am_wp E df B n r (lv) (.int (x &&& y) :: st) M c s) := rfl
theorem w_ior {x y : Int32} : am_wp E df B (n + 1) ((pc, .ior, e1, e2, e3) :: r) lv (.int y :: .int x :: st) M c s = (am_wp E df B n r (lv) (.int (x ||| y) :: st) M c s) := rfl
theorem w_ixor {x y : Int32} : am_wp E df B (n + 1) ((pc, .ixor, e1, e2, e3) :: r) lv (.int y :: .int x :: st) M c s = (am_wp E df B n r (lv) (.int (x ^^^ y) :: st) M c s) := rfl
theorem w_ishl {x y : Int32} : am_wp E df B (n + 1) ((pc, .ishl, e1, e2, e3) :: r) lv (.int y :: .int x :: st) M c s = (am_wp E df B n r (lv) (.int (x <<< (y &&& 31)) :: st) M c s) := rfl
theorem w_ishr {x y : Int32} : am_wp E df B (n + 1) ((pc, .ishr, e1, e2, e3) :: r) lv (.int y :: .int x :: st) M c s = (am_wp E df B n r (lv) (.int (x >>> (y &&& 31)) :: st) M c s) := rfl
theorem w_idiv {x y : Int32} : am_wp E df B (n + 1) ((pc, .idiv, e1, e2, e3) :: r) lv (.int y :: .int x :: st) M c s = (¬ y = 0 ∧ am_wp E df B n r (lv) (.int (x / y) :: st) M c s) := rfl
theorem w_irem {x y : Int32} : am_wp E df B (n + 1) ((pc, .irem, e1, e2, e3) :: r) lv (.int y :: .int x :: st) M c s = (¬ y = 0 ∧ am_wp E df B n r (lv) (.int (x - x / y * y) :: st) M c s) := rfl
theorem w_ineg {x : Int32} : am_wp E df B (n + 1) ((pc, .ineg, e1, e2, e3) :: r) lv (.int x :: st) M c s = (am_wp E df B n r (lv) (.int (-x) :: st) M c s) := rfl
theorem w_ladd {x y : Int64} : am_wp E df B (n + 1) ((pc, .ladd, e1, e2, e3) :: r) lv (.long y :: .long x :: st) M c s = (am_wp E df B n r (lv) (.long (x + y) :: st) M c s) := rfl
theorem w_lmul {x y : Int64} : am_wp E df B (n + 1) ((pc, .lmul, e1, e2, e3) :: r) lv (.long y :: .long x :: st) M c s = (am_wp E df B n r (lv) (.long (x * y) :: st) M c s) := rfl
theorem w_lor {x y : Int64} : am_wp E df B (n + 1) ((pc, .lor, e1, e2, e3) :: r) lv (.long y :: .long x :: st) M c s = (am_wp E df B n r (lv) (.long (x ||| y) :: st) M c s) := rfl
theorem w_lshl {x : Int64} {y : Int32} : am_wp E df B (n + 1) ((pc, .lshl, e1, e2, e3) :: r) lv (.int y :: .long x :: st) M c s = (am_wp E df B n r (lv) (.long (x <<< (y.toInt64 &&& 63)) :: st) M c s) := rfl
theorem w_lshr {x : Int64} {y : Int32} : am_wp E df B (n + 1) ((pc, .lshr, e1, e2, e3) :: r) lv (.int y :: .long x :: st) M c s = (am_wp E df B n r (lv) (.long (x >>> (y.toInt64 &&& 63)) :: st) M c s) := rfl
theorem w_i2l {x : Int32} : am_wp E df B (n + 1) ((pc, .i2l, e1, e2, e3) :: r) lv (.int x :: st) M c s = (am_wp E df B n r (lv) (.long x.toInt64 :: st) M c s) := rfl
theorem w_l2i {x : Int64} : am_wp E df B (n + 1) ((pc, .l2i, e1, e2, e3) :: r) lv (.long x :: st) M c s = (am_wp E df B n r (lv) (.int x.toInt32 :: st) M c s) := rfl
theorem w_lcmp {x y : Int64} : am_wp E df B (n + 1) ((pc, .lcmp, e1, e2, e3) :: r) lv (.long y :: .long x :: st) M c s = (am_wp E df B n r (lv) (.int (lg_cmp x y) :: st) M c s) := rfl
theorem w_dup {v : Value} : am_wp E df B (n + 1) ((pc, .dup, e1, e2, e3) :: r) lv (v :: st) M c s = (v.category = 1 ∧ am_wp E df B n r (lv) (v :: v :: st) M c s) := rfl
theorem w_dup2 {v z : Value} : am_wp E df B (n + 1) ((pc, .dup2, e1, e2, e3) :: r) lv (v :: z :: st) M c s = (v.category = 1 ∧ z.category = 1 ∧ am_wp E df B n r (lv) (v :: z :: v :: z :: st) M c s) := rfl
theorem w_pop {v : Value} : am_wp E df B (n + 1) ((pc, .pop, e1, e2, e3) :: r) lv (v :: st) M c s = (v.category = 1 ∧ am_wp E df B n r (lv) (st) M c s) := rfl
theorem w_if_eq {o : Int} {x : Int32} : am_wp E df B (n + 1) ((pc, .ifCond .eq o, e1, e2, e3) :: r) lv (.int x :: st) M c s = ((x = 0 → am_wp E df B n (B e1) lv st M c s) ∧ (¬ x = 0 → am_wp E df B n r (lv) (st) M c s)) := rfl
theorem w_icmp_eq {o : Int} {x y : Int32} : am_wp E df B (n + 1) ((pc, .if_icmp .eq o, e1, e2, e3) :: r) lv (.int y :: .int x :: st) M c s = ((x = y → am_wp E df B n (B e1) lv st M c s) ∧ (¬ x = y → am_wp E df B n r (lv) (st) M c s)) := rfl
theorem w_if_ne {o : Int} {x : Int32} : am_wp E df B (n + 1) ((pc, .ifCond .ne o, e1, e2, e3) :: r) lv (.int x :: st) M c s = ((¬ x = 0 → am_wp E df B n (B e1) lv st M c s) ∧ (x = 0 → am_wp E df B n r (lv) (st) M c s)) := rfl
theorem w_icmp_ne {o : Int} {x y : Int32} : am_wp E df B (n + 1) ((pc, .if_icmp .ne o, e1, e2, e3) :: r) lv (.int y :: .int x :: st) M c s = ((¬ x = y → am_wp E df B n (B e1) lv st M c s) ∧ (x = y → am_wp E df B n r (lv) (st) M c s)) := rfl
theorem w_if_lt {o : Int} {x : Int32} : am_wp E df B (n + 1) ((pc, .ifCond .lt o, e1, e2, e3) :: r) lv (.int x :: st) M c s = ((x < 0 → am_wp E df B n (B e1) lv st M c s) ∧ (¬ x < 0 → am_wp E df B n r (lv) (st) M c s)) := rfl
theorem w_icmp_lt {o : Int} {x y : Int32} : am_wp E df B (n + 1) ((pc, .if_icmp .lt o, e1, e2, e3) :: r) lv (.int y :: .int x :: st) M c s = ((x < y → am_wp E df B n (B e1) lv st M c s) ∧ (¬ x < y → am_wp E df B n r (lv) (st) M c s)) := rfl
theorem w_if_ge {o : Int} {x : Int32} : am_wp E df B (n + 1) ((pc, .ifCond .ge o, e1, e2, e3) :: r) lv (.int x :: st) M c s = ((0 ≤ x → am_wp E df B n (B e1) lv st M c s) ∧ (¬ 0 ≤ x → am_wp E df B n r (lv) (st) M c s)) := rfl
theorem w_icmp_ge {o : Int} {x y : Int32} : am_wp E df B (n + 1) ((pc, .if_icmp .ge o, e1, e2, e3) :: r) lv (.int y :: .int x :: st) M c s = ((y ≤ x → am_wp E df B n (B e1) lv st M c s) ∧ (¬ y ≤ x → am_wp E df B n r (lv) (st) M c s)) := rfl
theorem w_if_gt {o : Int} {x : Int32} : am_wp E df B (n + 1) ((pc, .ifCond .gt o, e1, e2, e3) :: r) lv (.int x :: st) M c s = ((0 < x → am_wp E df B n (B e1) lv st M c s) ∧ (¬ 0 < x → am_wp E df B n r (lv) (st) M c s)) := rfl
theorem w_icmp_gt {o : Int} {x y : Int32} : am_wp E df B (n + 1) ((pc, .if_icmp .gt o, e1, e2, e3) :: r) lv (.int y :: .int x :: st) M c s = ((y < x → am_wp E df B n (B e1) lv st M c s) ∧ (¬ y < x → am_wp E df B n r (lv) (st) M c s)) := rfl
theorem w_if_le {o : Int} {x : Int32} : am_wp E df B (n + 1) ((pc, .ifCond .le o, e1, e2, e3) :: r) lv (.int x :: st) M c s = ((x ≤ 0 → am_wp E df B n (B e1) lv st M c s) ∧ (¬ x ≤ 0 → am_wp E df B n r (lv) (st) M c s)) := rfl
theorem w_icmp_le {o : Int} {x y : Int32} : am_wp E df B (n + 1) ((pc, .if_icmp .le o, e1, e2, e3) :: r) lv (.int y :: .int x :: st) M c s = ((x ≤ y → am_wp E df B n (B e1) lv st M c s) ∧ (¬ x ≤ y → am_wp E df B n r (lv) (st) M c s)) := rfl
theorem w_goto {o : Int} : am_wp E df B (n + 1) ((pc, .goto o, e1, e2, e3) :: r) lv (st) M c s = (am_wp E df B n (B e1) lv st M c s) := rfl
theorem w_tsw {d lo hi : Int} {offs : Array Int} {x : Int32} : am_wp E df B (n + 1) ((pc, .tableswitch d lo hi offs, e1, e2, e3) :: r) lv (.int x :: st) M c s = (am_tsw x (fun t => am_wp E df B n (B t) lv st M c s) pc d lo offs.toList) := rfl
theorem w_lsw {d : Int} {ps : Array (Int × Int)} {x : Int32} : am_wp E df B (n + 1) ((pc, .lookupswitch d ps, e1, e2, e3) :: r) lv (.int x :: st) M c s = (am_lsw x (fun t => am_wp E df B n (B t) lv st M c s) pc d ps.toList) := rfl
theorem w_getfield {i a : Nat} : am_wp E df B (n + 1) ((pc, .getfield i, e1, e2, e3) :: r) lv (.ref a :: st) M c s = (am_gf M a e1 e2 fun v => am_wp E df B n r lv (v :: st) M c s) := rfl
theorem w_puti {i a : Nat} {v : Int32} : am_wp E df B (n + 1) ((pc, .putfield i, e1, e2, e3) :: r) lv (.int v :: .ref a :: st) M c s = ((∃ fl, M.1[a]? = some (.inr (e1, fl)) ∧ fl[e2]? = some none) ∧ (e3 % 10 = 1 → v = 0 ∨ v = 1) ∧ (e3 / 10 = 1 → E.2.2.2.2.2.1 = 1) ∧ ¬ e3 / 10 = 2 ∧ am_wp E df B n r lv st (am_puti M a e2 v) c s) := rfl
theorem w_iaload {i : Int32} {a : Nat} (ha : (a = 999) = False) : am_wp E df B (n + 1) ((pc, .iaload, e1, e2, e3) :: r) lv (.int i :: .ref a :: st) M c s = (am_ar M a 0 fun z => vp_in i z ∧ am_wp E df B n r lv (.int (M.2.1 a i.toNatClampNeg) :: st) M c s) := if_neg (fun h => by rw [ha] at h; exact h)
theorem w_baload {i : Int32} {a : Nat} : am_wp E df B (n + 1) ((pc, .baload, e1, e2, e3) :: r) lv (.int i :: .ref a :: st) M c s = (am_ar M a 2 fun z => vp_in i z ∧ am_wp E df B n r lv (.int (M.2.1 a i.toNatClampNeg) :: st) M c s) := rfl
theorem w_caload {i : Int32} {a : Nat} : am_wp E df B (n + 1) ((pc, .caload, e1, e2, e3) :: r) lv (.int i :: .ref a :: st) M c s = (am_ar M a 3 fun z => vp_in i z ∧ am_wp E df B n r lv (.int (M.2.1 a i.toNatClampNeg) :: st) M c s) := rfl
theorem w_laload {i : Int32} {a : Nat} : am_wp E df B (n + 1) ((pc, .laload, e1, e2, e3) :: r) lv (.int i :: .ref a :: st) M c s = (am_ar M a 1 fun z => vp_in i z ∧ am_wp E df B n r lv (.long (M.2.2 a i.toNatClampNeg) :: st) M c s) := rfl
theorem w_iastore {x i : Int32} {a : Nat} : am_wp E df B (n + 1) ((pc, .iastore, e1, e2, e3) :: r) lv (.int x :: .int i :: .ref a :: st) M c s = (E.2.2.2.2.2.1 = 1 ∧ am_ar M a 0 fun z => vp_in i z ∧ am_wp E df B n r lv st (am_puti M a i.toNatClampNeg x) c s) := rfl
theorem w_bastore {x i : Int32} {a : Nat} : am_wp E df B (n + 1) ((pc, .bastore, e1, e2, e3) :: r) lv (.int x :: .int i :: .ref a :: st) M c s = (E.2.2.2.2.2.1 = 1 ∧ (x = 0 ∨ x = 1) ∧ am_ar M a 2 fun z => vp_in i z ∧ am_wp E df B n r lv st (am_puti M a i.toNatClampNeg x) c s) := rfl
theorem w_lastore {x : Int64} {i : Int32} {a : Nat} : am_wp E df B (n + 1) ((pc, .lastore, e1, e2, e3) :: r) lv (.long x :: .int i :: .ref a :: st) M c s = (E.2.2.2.2.2.1 = 1 ∧ am_ar M a 1 fun z => vp_in i z ∧ am_wp E df B n r lv st (am_putj M a i.toNatClampNeg x) c s) := rfl
theorem w_arraylength {a : Nat} (ha : (a = 999) = False) : am_wp E df B (n + 1) ((pc, .arraylength, e1, e2, e3) :: r) lv (.ref a :: st) M c s = (match M.1[a]? with | some (.inl (t, z)) => t < 4 ∧ am_wp E df B n r lv (.int (Int32.ofNat z) :: st) M c s | _ => False) := if_neg (fun h => by rw [ha] at h; exact h)
theorem w_ireturn {v : Int32} : am_wp E df B (n + 1) ((pc, .ireturn, e1, e2, e3) :: r) lv ([.int v]) M c s = (E.2.1 (some (.int v)) M c s) := rfl
theorem w_lreturn {v : Int64} : am_wp E df B (n + 1) ((pc, .lreturn, e1, e2, e3) :: r) lv ([.long v]) M c s = (E.2.1 (some (.long v)) M c s) := rfl
theorem w_areturn {v : Nat} : am_wp E df B (n + 1) ((pc, .areturn, e1, e2, e3) :: r) lv ([.ref v]) M c s = (E.2.1 (some (.ref v)) M c s) := rfl
theorem w_return : am_wp E df B (n + 1) ((pc, .return_, e1, e2, e3) :: r) lv ([]) M c s = (E.2.1 none M c s) := rfl
/-- a call that returns, its contract known -/
theorem w_virt {i : Nat} {a : Nat} {av rest : List Value} {mc ms : Nat} {P : Option Value → am_M → Prop} (hst : (st.take e2).reverse = .ref a :: av) (hlen : e2 ≤ st.length) (hsum : am_sum (st.drop e2) ≤ 8) (hr : am_rcv M (e3 % 100) a) (hk : e3 / 100 % 10 = 0) (hC : E.2.2.2.1 e1 (.ref a :: av) M mc ms P) (h1 : c + mc ≤ E.2.2.2.2.2.2.1.1) (h2 : s + ms ≤ E.2.2.2.2.2.2.1.2)
    (kk : ∀ r' M', P r' M' → am_wp E df B n r lv (r'.toList ++ st.drop e2) M' (c + mc) (s + ms)) : am_wp E df B (n + 1) ((pc, .invokevirtual i, e1, e2, e3) :: r) lv st M c s := by
  show am_stp E df pc (.invokevirtual i) e1 e2 e3 lv st M c s (am_wp E df B n r) (fun t => am_wp E df B n (B t))
  simp only [am_stp, hst]
  refine ⟨hlen, hsum, hr, ?_⟩
  rw [if_pos hk]
  exact ⟨mc, ms, P, hC, h1, h2, kk⟩
theorem w_stat {i : Nat} {av : List Value} {mc ms : Nat} {P : Option Value → am_M → Prop} (he : e1 ≠ 901) (hst : (st.take e2).reverse = av) (hlen : e2 ≤ st.length) (hsum : am_sum (st.drop e2) ≤ 8) (hC : E.2.2.2.1 e1 av M mc ms P) (h1 : c + mc ≤ E.2.2.2.2.2.2.1.1) (h2 : s + ms ≤ E.2.2.2.2.2.2.1.2)
    (kk : ∀ r' M', P r' M' → am_wp E df B n r lv (r'.toList ++ st.drop e2) M' (c + mc) (s + ms)) : am_wp E df B (n + 1) ((pc, .invokestatic i, e1, e2, e3) :: r) lv st M c s := by
  show am_stp E df pc (.invokestatic i) e1 e2 e3 lv st M c s (am_wp E df B n r) (fun t => am_wp E df B n (B t))
  simp only [am_stp, hst]
  rw [if_neg he]
  exact ⟨hlen, hsum, mc, ms, P, hC, h1, h2, kk⟩
end WPL
theorem am_lk0 (v : Value) (i : Nat) (lv : am_L) : am_lk ((i, v) :: lv) i = some v := if_pos rfl
theorem am_lk1 {i j : Nat} (v : Value) (lv : am_L) (h : (j = i) = False) : am_lk ((j, v) :: lv) i = am_lk lv i := if_neg (fun h0 => by rw [h] at h0; exact h0)
theorem am_ld_some (v : Value) (P : Value → Prop) : am_ld (some v) P = P v := rfl
theorem am_isI_i (x : Int32) : am_isI (.int x) = True := rfl
theorem am_isJ_j (x : Int64) : am_isJ (.long x) = True := rfl
theorem am_isR_r (x : Nat) : am_isR (.ref x) = True := rfl
theorem am_puti_SH (I : Nat → Nat → Int32) (J : Nat → Nat → Int64) (a k : Nat) (v : Int32) : am_puti (am_SH, I, J) a k v = (am_SH, am_rs I a (upd (I a) k v), J) := rfl
theorem am_putj_SH (I : Nat → Nat → Int32) (J : Nat → Nat → Int64) (a k : Nat) (v : Int64) : am_putj (am_SH, I, J) a k v = (am_SH, I, am_rs J a (vp_updL (J a) k v)) := rfl
