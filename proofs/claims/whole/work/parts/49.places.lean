/-! ===== the 88 cells behind the two constructors ===== -/
def adF (q1 q2 : Nat) (f1 f2 : Nat → Nat) (t u b : Nat) (i : Nat) : Nat := bif Nat.beq i 0 then q1 else bif Nat.ble i 72 then f1 i else bif Nat.beq i 73 then q2 else bif Nat.ble i 87 then f2 i else bif Nat.beq i 88 then t else bif Nat.beq i 89 then u else b
def posL : List Nat := [0, 1, 4, 11, 24, 37, 50, 61, 72, 2, 5, 7, 9, 12, 14, 16, 18, 20, 22, 25, 27, 29, 31, 33, 35, 38, 40, 42, 44, 46, 48, 51, 53, 55, 57, 59, 62, 64, 66, 68, 70, 3, 6, 8, 10, 13, 15, 17, 19, 21, 23, 26, 28, 30, 32, 34, 36, 39, 41, 43, 45, 47, 49, 52, 54, 56, 58, 60, 63, 65, 67, 69, 71, 73, 74, 75, 76, 77, 78, 79, 80, 81, 82, 83, 84, 85, 86, 87]
def posN (i : Nat) : Nat := adr posL i
theorem posN_inj : ∀ i, i < 88 → ∀ j, j < 88 → posN i = posN j → i = j := by decide +kernel
theorem wp_0 (cI : ClassId) (q1 q2 : Nat) (f1 f2 : Nat → Nat) (t u b : Nat) : (wGD cI f1 q1 ++ wM cI f2 q2)[0]? = some (adF q1 q2 f1 f2 t u b 0, ce (adF q1 q2 f1 f2 t u b) cI h00 0) := rfl
theorem wp_1 (cI : ClassId) (q1 q2 : Nat) (f1 f2 : Nat → Nat) (t u b : Nat) : (wGD cI f1 q1 ++ wM cI f2 q2)[1]? = some (adF q1 q2 f1 f2 t u b 1, ce (adF q1 q2 f1 f2 t u b) cI h00 1) := rfl
theorem wp_2 (cI : ClassId) (q1 q2 : Nat) (f1 f2 : Nat → Nat) (t u b : Nat) : (wGD cI f1 q1 ++ wM cI f2 q2)[4]? = some (adF q1 q2 f1 f2 t u b 2, ce (adF q1 q2 f1 f2 t u b) cI h00 2) := rfl
theorem wp_3 (cI : ClassId) (q1 q2 : Nat) (f1 f2 : Nat → Nat) (t u b : Nat) : (wGD cI f1 q1 ++ wM cI f2 q2)[11]? = some (adF q1 q2 f1 f2 t u b 3, ce (adF q1 q2 f1 f2 t u b) cI h00 3) := rfl
theorem wp_4 (cI : ClassId) (q1 q2 : Nat) (f1 f2 : Nat → Nat) (t u b : Nat) : (wGD cI f1 q1 ++ wM cI f2 q2)[24]? = some (adF q1 q2 f1 f2 t u b 4, ce (adF q1 q2 f1 f2 t u b) cI h00 4) := rfl
theorem wp_5 (cI : ClassId) (q1 q2 : Nat) (f1 f2 : Nat → Nat) (t u b : Nat) : (wGD cI f1 q1 ++ wM cI f2 q2)[37]? = some (adF q1 q2 f1 f2 t u b 5, ce (adF q1 q2 f1 f2 t u b) cI h00 5) := rfl
theorem wp_6 (cI : ClassId) (q1 q2 : Nat) (f1 f2 : Nat → Nat) (t u b : Nat) : (wGD cI f1 q1 ++ wM cI f2 q2)[50]? = some (adF q1 q2 f1 f2 t u b 6, ce (adF q1 q2 f1 f2 t u b) cI h00 6) := rfl
theorem wp_7 (cI : ClassId) (q1 q2 : Nat) (f1 f2 : Nat → Nat) (t u b : Nat) : (wGD cI f1 q1 ++ wM cI f2 q2)[61]? = some (adF q1 q2 f1 f2 t u b 7, ce (adF q1 q2 f1 f2 t u b) cI h00 7) := rfl
theorem wp_8 (cI : ClassId) (q1 q2 : Nat) (f1 f2 : Nat → Nat) (t u b : Nat) : (wGD cI f1 q1 ++ wM cI f2 q2)[72]? = some (adF q1 q2 f1 f2 t u b 8, ce (adF q1 q2 f1 f2 t u b) cI h00 8) := rfl
theorem wp_9 (cI : ClassId) (q1 q2 : Nat) (f1 f2 : Nat → Nat) (t u b : Nat) : (wGD cI f1 q1 ++ wM cI f2 q2)[2]? = some (adF q1 q2 f1 f2 t u b 9, ce (adF q1 q2 f1 f2 t u b) cI h00 9) := rfl
theorem wp_10 (cI : ClassId) (q1 q2 : Nat) (f1 f2 : Nat → Nat) (t u b : Nat) : (wGD cI f1 q1 ++ wM cI f2 q2)[5]? = some (adF q1 q2 f1 f2 t u b 10, ce (adF q1 q2 f1 f2 t u b) cI h00 10) := rfl
theorem wp_11 (cI : ClassId) (q1 q2 : Nat) (f1 f2 : Nat → Nat) (t u b : Nat) : (wGD cI f1 q1 ++ wM cI f2 q2)[7]? = some (adF q1 q2 f1 f2 t u b 11, ce (adF q1 q2 f1 f2 t u b) cI h00 11) := rfl
theorem wp_12 (cI : ClassId) (q1 q2 : Nat) (f1 f2 : Nat → Nat) (t u b : Nat) : (wGD cI f1 q1 ++ wM cI f2 q2)[9]? = some (adF q1 q2 f1 f2 t u b 12, ce (adF q1 q2 f1 f2 t u b) cI h00 12) := rfl
theorem wp_13 (cI : ClassId) (q1 q2 : Nat) (f1 f2 : Nat → Nat) (t u b : Nat) : (wGD cI f1 q1 ++ wM cI f2 q2)[12]? = some (adF q1 q2 f1 f2 t u b 13, ce (adF q1 q2 f1 f2 t u b) cI h00 13) := rfl
theorem wp_14 (cI : ClassId) (q1 q2 : Nat) (f1 f2 : Nat → Nat) (t u b : Nat) : (wGD cI f1 q1 ++ wM cI f2 q2)[14]? = some (adF q1 q2 f1 f2 t u b 14, ce (adF q1 q2 f1 f2 t u b) cI h00 14) := rfl
theorem wp_15 (cI : ClassId) (q1 q2 : Nat) (f1 f2 : Nat → Nat) (t u b : Nat) : (wGD cI f1 q1 ++ wM cI f2 q2)[16]? = some (adF q1 q2 f1 f2 t u b 15, ce (adF q1 q2 f1 f2 t u b) cI h00 15) := rfl
theorem wp_16 (cI : ClassId) (q1 q2 : Nat) (f1 f2 : Nat → Nat) (t u b : Nat) : (wGD cI f1 q1 ++ wM cI f2 q2)[18]? = some (adF q1 q2 f1 f2 t u b 16, ce (adF q1 q2 f1 f2 t u b) cI h00 16) := rfl
theorem wp_17 (cI : ClassId) (q1 q2 : Nat) (f1 f2 : Nat → Nat) (t u b : Nat) : (wGD cI f1 q1 ++ wM cI f2 q2)[20]? = some (adF q1 q2 f1 f2 t u b 17, ce (adF q1 q2 f1 f2 t u b) cI h00 17) := rfl
theorem wp_18 (cI : ClassId) (q1 q2 : Nat) (f1 f2 : Nat → Nat) (t u b : Nat) : (wGD cI f1 q1 ++ wM cI f2 q2)[22]? = some (adF q1 q2 f1 f2 t u b 18, ce (adF q1 q2 f1 f2 t u b) cI h00 18) := rfl
theorem wp_19 (cI : ClassId) (q1 q2 : Nat) (f1 f2 : Nat → Nat) (t u b : Nat) : (wGD cI f1 q1 ++ wM cI f2 q2)[25]? = some (adF q1 q2 f1 f2 t u b 19, ce (adF q1 q2 f1 f2 t u b) cI h00 19) := rfl
theorem wp_20 (cI : ClassId) (q1 q2 : Nat) (f1 f2 : Nat → Nat) (t u b : Nat) : (wGD cI f1 q1 ++ wM cI f2 q2)[27]? = some (adF q1 q2 f1 f2 t u b 20, ce (adF q1 q2 f1 f2 t u b) cI h00 20) := rfl
theorem wp_21 (cI : ClassId) (q1 q2 : Nat) (f1 f2 : Nat → Nat) (t u b : Nat) : (wGD cI f1 q1 ++ wM cI f2 q2)[29]? = some (adF q1 q2 f1 f2 t u b 21, ce (adF q1 q2 f1 f2 t u b) cI h00 21) := rfl
theorem wp_22 (cI : ClassId) (q1 q2 : Nat) (f1 f2 : Nat → Nat) (t u b : Nat) : (wGD cI f1 q1 ++ wM cI f2 q2)[31]? = some (adF q1 q2 f1 f2 t u b 22, ce (adF q1 q2 f1 f2 t u b) cI h00 22) := rfl
theorem wp_23 (cI : ClassId) (q1 q2 : Nat) (f1 f2 : Nat → Nat) (t u b : Nat) : (wGD cI f1 q1 ++ wM cI f2 q2)[33]? = some (adF q1 q2 f1 f2 t u b 23, ce (adF q1 q2 f1 f2 t u b) cI h00 23) := rfl
theorem wp_24 (cI : ClassId) (q1 q2 : Nat) (f1 f2 : Nat → Nat) (t u b : Nat) : (wGD cI f1 q1 ++ wM cI f2 q2)[35]? = some (adF q1 q2 f1 f2 t u b 24, ce (adF q1 q2 f1 f2 t u b) cI h00 24) := rfl
theorem wp_25 (cI : ClassId) (q1 q2 : Nat) (f1 f2 : Nat → Nat) (t u b : Nat) : (wGD cI f1 q1 ++ wM cI f2 q2)[38]? = some (adF q1 q2 f1 f2 t u b 25, ce (adF q1 q2 f1 f2 t u b) cI h00 25) := rfl
theorem wp_26 (cI : ClassId) (q1 q2 : Nat) (f1 f2 : Nat → Nat) (t u b : Nat) : (wGD cI f1 q1 ++ wM cI f2 q2)[40]? = some (adF q1 q2 f1 f2 t u b 26, ce (adF q1 q2 f1 f2 t u b) cI h00 26) := rfl
theorem wp_27 (cI : ClassId) (q1 q2 : Nat) (f1 f2 : Nat → Nat) (t u b : Nat) : (wGD cI f1 q1 ++ wM cI f2 q2)[42]? = some (adF q1 q2 f1 f2 t u b 27, ce (adF q1 q2 f1 f2 t u b) cI h00 27) := rfl
theorem wp_28 (cI : ClassId) (q1 q2 : Nat) (f1 f2 : Nat → Nat) (t u b : Nat) : (wGD cI f1 q1 ++ wM cI f2 q2)[44]? = some (adF q1 q2 f1 f2 t u b 28, ce (adF q1 q2 f1 f2 t u b) cI h00 28) := rfl
theorem wp_29 (cI : ClassId) (q1 q2 : Nat) (f1 f2 : Nat → Nat) (t u b : Nat) : (wGD cI f1 q1 ++ wM cI f2 q2)[46]? = some (adF q1 q2 f1 f2 t u b 29, ce (adF q1 q2 f1 f2 t u b) cI h00 29) := rfl
theorem wp_30 (cI : ClassId) (q1 q2 : Nat) (f1 f2 : Nat → Nat) (t u b : Nat) : (wGD cI f1 q1 ++ wM cI f2 q2)[48]? = some (adF q1 q2 f1 f2 t u b 30, ce (adF q1 q2 f1 f2 t u b) cI h00 30) := rfl
theorem wp_31 (cI : ClassId) (q1 q2 : Nat) (f1 f2 : Nat → Nat) (t u b : Nat) : (wGD cI f1 q1 ++ wM cI f2 q2)[51]? = some (adF q1 q2 f1 f2 t u b 31, ce (adF q1 q2 f1 f2 t u b) cI h00 31) := rfl
theorem wp_32 (cI : ClassId) (q1 q2 : Nat) (f1 f2 : Nat → Nat) (t u b : Nat) : (wGD cI f1 q1 ++ wM cI f2 q2)[53]? = some (adF q1 q2 f1 f2 t u b 32, ce (adF q1 q2 f1 f2 t u b) cI h00 32) := rfl
theorem wp_33 (cI : ClassId) (q1 q2 : Nat) (f1 f2 : Nat → Nat) (t u b : Nat) : (wGD cI f1 q1 ++ wM cI f2 q2)[55]? = some (adF q1 q2 f1 f2 t u b 33, ce (adF q1 q2 f1 f2 t u b) cI h00 33) := rfl
theorem wp_34 (cI : ClassId) (q1 q2 : Nat) (f1 f2 : Nat → Nat) (t u b : Nat) : (wGD cI f1 q1 ++ wM cI f2 q2)[57]? = some (adF q1 q2 f1 f2 t u b 34, ce (adF q1 q2 f1 f2 t u b) cI h00 34) := rfl
theorem wp_35 (cI : ClassId) (q1 q2 : Nat) (f1 f2 : Nat → Nat) (t u b : Nat) : (wGD cI f1 q1 ++ wM cI f2 q2)[59]? = some (adF q1 q2 f1 f2 t u b 35, ce (adF q1 q2 f1 f2 t u b) cI h00 35) := rfl
theorem wp_36 (cI : ClassId) (q1 q2 : Nat) (f1 f2 : Nat → Nat) (t u b : Nat) : (wGD cI f1 q1 ++ wM cI f2 q2)[62]? = some (adF q1 q2 f1 f2 t u b 36, ce (adF q1 q2 f1 f2 t u b) cI h00 36) := rfl
theorem wp_37 (cI : ClassId) (q1 q2 : Nat) (f1 f2 : Nat → Nat) (t u b : Nat) : (wGD cI f1 q1 ++ wM cI f2 q2)[64]? = some (adF q1 q2 f1 f2 t u b 37, ce (adF q1 q2 f1 f2 t u b) cI h00 37) := rfl
theorem wp_38 (cI : ClassId) (q1 q2 : Nat) (f1 f2 : Nat → Nat) (t u b : Nat) : (wGD cI f1 q1 ++ wM cI f2 q2)[66]? = some (adF q1 q2 f1 f2 t u b 38, ce (adF q1 q2 f1 f2 t u b) cI h00 38) := rfl
theorem wp_39 (cI : ClassId) (q1 q2 : Nat) (f1 f2 : Nat → Nat) (t u b : Nat) : (wGD cI f1 q1 ++ wM cI f2 q2)[68]? = some (adF q1 q2 f1 f2 t u b 39, ce (adF q1 q2 f1 f2 t u b) cI h00 39) := rfl
theorem wp_40 (cI : ClassId) (q1 q2 : Nat) (f1 f2 : Nat → Nat) (t u b : Nat) : (wGD cI f1 q1 ++ wM cI f2 q2)[70]? = some (adF q1 q2 f1 f2 t u b 40, ce (adF q1 q2 f1 f2 t u b) cI h00 40) := rfl
theorem wp_41 (cI : ClassId) (q1 q2 : Nat) (f1 f2 : Nat → Nat) (t u b : Nat) : (wGD cI f1 q1 ++ wM cI f2 q2)[3]? = some (adF q1 q2 f1 f2 t u b 41, ce (adF q1 q2 f1 f2 t u b) cI h00 41) := rfl
theorem wp_42 (cI : ClassId) (q1 q2 : Nat) (f1 f2 : Nat → Nat) (t u b : Nat) : (wGD cI f1 q1 ++ wM cI f2 q2)[6]? = some (adF q1 q2 f1 f2 t u b 42, ce (adF q1 q2 f1 f2 t u b) cI h00 42) := rfl
theorem wp_43 (cI : ClassId) (q1 q2 : Nat) (f1 f2 : Nat → Nat) (t u b : Nat) : (wGD cI f1 q1 ++ wM cI f2 q2)[8]? = some (adF q1 q2 f1 f2 t u b 43, ce (adF q1 q2 f1 f2 t u b) cI h00 43) := rfl
theorem wp_44 (cI : ClassId) (q1 q2 : Nat) (f1 f2 : Nat → Nat) (t u b : Nat) : (wGD cI f1 q1 ++ wM cI f2 q2)[10]? = some (adF q1 q2 f1 f2 t u b 44, ce (adF q1 q2 f1 f2 t u b) cI h00 44) := rfl
theorem wp_45 (cI : ClassId) (q1 q2 : Nat) (f1 f2 : Nat → Nat) (t u b : Nat) : (wGD cI f1 q1 ++ wM cI f2 q2)[13]? = some (adF q1 q2 f1 f2 t u b 45, ce (adF q1 q2 f1 f2 t u b) cI h00 45) := rfl
theorem wp_46 (cI : ClassId) (q1 q2 : Nat) (f1 f2 : Nat → Nat) (t u b : Nat) : (wGD cI f1 q1 ++ wM cI f2 q2)[15]? = some (adF q1 q2 f1 f2 t u b 46, ce (adF q1 q2 f1 f2 t u b) cI h00 46) := rfl
theorem wp_47 (cI : ClassId) (q1 q2 : Nat) (f1 f2 : Nat → Nat) (t u b : Nat) : (wGD cI f1 q1 ++ wM cI f2 q2)[17]? = some (adF q1 q2 f1 f2 t u b 47, ce (adF q1 q2 f1 f2 t u b) cI h00 47) := rfl
theorem wp_48 (cI : ClassId) (q1 q2 : Nat) (f1 f2 : Nat → Nat) (t u b : Nat) : (wGD cI f1 q1 ++ wM cI f2 q2)[19]? = some (adF q1 q2 f1 f2 t u b 48, ce (adF q1 q2 f1 f2 t u b) cI h00 48) := rfl
theorem wp_49 (cI : ClassId) (q1 q2 : Nat) (f1 f2 : Nat → Nat) (t u b : Nat) : (wGD cI f1 q1 ++ wM cI f2 q2)[21]? = some (adF q1 q2 f1 f2 t u b 49, ce (adF q1 q2 f1 f2 t u b) cI h00 49) := rfl
theorem wp_50 (cI : ClassId) (q1 q2 : Nat) (f1 f2 : Nat → Nat) (t u b : Nat) : (wGD cI f1 q1 ++ wM cI f2 q2)[23]? = some (adF q1 q2 f1 f2 t u b 50, ce (adF q1 q2 f1 f2 t u b) cI h00 50) := rfl
theorem wp_51 (cI : ClassId) (q1 q2 : Nat) (f1 f2 : Nat → Nat) (t u b : Nat) : (wGD cI f1 q1 ++ wM cI f2 q2)[26]? = some (adF q1 q2 f1 f2 t u b 51, ce (adF q1 q2 f1 f2 t u b) cI h00 51) := rfl
theorem wp_52 (cI : ClassId) (q1 q2 : Nat) (f1 f2 : Nat → Nat) (t u b : Nat) : (wGD cI f1 q1 ++ wM cI f2 q2)[28]? = some (adF q1 q2 f1 f2 t u b 52, ce (adF q1 q2 f1 f2 t u b) cI h00 52) := rfl
theorem wp_53 (cI : ClassId) (q1 q2 : Nat) (f1 f2 : Nat → Nat) (t u b : Nat) : (wGD cI f1 q1 ++ wM cI f2 q2)[30]? = some (adF q1 q2 f1 f2 t u b 53, ce (adF q1 q2 f1 f2 t u b) cI h00 53) := rfl
theorem wp_54 (cI : ClassId) (q1 q2 : Nat) (f1 f2 : Nat → Nat) (t u b : Nat) : (wGD cI f1 q1 ++ wM cI f2 q2)[32]? = some (adF q1 q2 f1 f2 t u b 54, ce (adF q1 q2 f1 f2 t u b) cI h00 54) := rfl
theorem wp_55 (cI : ClassId) (q1 q2 : Nat) (f1 f2 : Nat → Nat) (t u b : Nat) : (wGD cI f1 q1 ++ wM cI f2 q2)[34]? = some (adF q1 q2 f1 f2 t u b 55, ce (adF q1 q2 f1 f2 t u b) cI h00 55) := rfl
theorem wp_56 (cI : ClassId) (q1 q2 : Nat) (f1 f2 : Nat → Nat) (t u b : Nat) : (wGD cI f1 q1 ++ wM cI f2 q2)[36]? = some (adF q1 q2 f1 f2 t u b 56, ce (adF q1 q2 f1 f2 t u b) cI h00 56) := rfl
theorem wp_57 (cI : ClassId) (q1 q2 : Nat) (f1 f2 : Nat → Nat) (t u b : Nat) : (wGD cI f1 q1 ++ wM cI f2 q2)[39]? = some (adF q1 q2 f1 f2 t u b 57, ce (adF q1 q2 f1 f2 t u b) cI h00 57) := rfl
theorem wp_58 (cI : ClassId) (q1 q2 : Nat) (f1 f2 : Nat → Nat) (t u b : Nat) : (wGD cI f1 q1 ++ wM cI f2 q2)[41]? = some (adF q1 q2 f1 f2 t u b 58, ce (adF q1 q2 f1 f2 t u b) cI h00 58) := rfl
theorem wp_59 (cI : ClassId) (q1 q2 : Nat) (f1 f2 : Nat → Nat) (t u b : Nat) : (wGD cI f1 q1 ++ wM cI f2 q2)[43]? = some (adF q1 q2 f1 f2 t u b 59, ce (adF q1 q2 f1 f2 t u b) cI h00 59) := rfl
theorem wp_60 (cI : ClassId) (q1 q2 : Nat) (f1 f2 : Nat → Nat) (t u b : Nat) : (wGD cI f1 q1 ++ wM cI f2 q2)[45]? = some (adF q1 q2 f1 f2 t u b 60, ce (adF q1 q2 f1 f2 t u b) cI h00 60) := rfl
theorem wp_61 (cI : ClassId) (q1 q2 : Nat) (f1 f2 : Nat → Nat) (t u b : Nat) : (wGD cI f1 q1 ++ wM cI f2 q2)[47]? = some (adF q1 q2 f1 f2 t u b 61, ce (adF q1 q2 f1 f2 t u b) cI h00 61) := rfl
theorem wp_62 (cI : ClassId) (q1 q2 : Nat) (f1 f2 : Nat → Nat) (t u b : Nat) : (wGD cI f1 q1 ++ wM cI f2 q2)[49]? = some (adF q1 q2 f1 f2 t u b 62, ce (adF q1 q2 f1 f2 t u b) cI h00 62) := rfl
theorem wp_63 (cI : ClassId) (q1 q2 : Nat) (f1 f2 : Nat → Nat) (t u b : Nat) : (wGD cI f1 q1 ++ wM cI f2 q2)[52]? = some (adF q1 q2 f1 f2 t u b 63, ce (adF q1 q2 f1 f2 t u b) cI h00 63) := rfl
theorem wp_64 (cI : ClassId) (q1 q2 : Nat) (f1 f2 : Nat → Nat) (t u b : Nat) : (wGD cI f1 q1 ++ wM cI f2 q2)[54]? = some (adF q1 q2 f1 f2 t u b 64, ce (adF q1 q2 f1 f2 t u b) cI h00 64) := rfl
theorem wp_65 (cI : ClassId) (q1 q2 : Nat) (f1 f2 : Nat → Nat) (t u b : Nat) : (wGD cI f1 q1 ++ wM cI f2 q2)[56]? = some (adF q1 q2 f1 f2 t u b 65, ce (adF q1 q2 f1 f2 t u b) cI h00 65) := rfl
theorem wp_66 (cI : ClassId) (q1 q2 : Nat) (f1 f2 : Nat → Nat) (t u b : Nat) : (wGD cI f1 q1 ++ wM cI f2 q2)[58]? = some (adF q1 q2 f1 f2 t u b 66, ce (adF q1 q2 f1 f2 t u b) cI h00 66) := rfl
theorem wp_67 (cI : ClassId) (q1 q2 : Nat) (f1 f2 : Nat → Nat) (t u b : Nat) : (wGD cI f1 q1 ++ wM cI f2 q2)[60]? = some (adF q1 q2 f1 f2 t u b 67, ce (adF q1 q2 f1 f2 t u b) cI h00 67) := rfl
theorem wp_68 (cI : ClassId) (q1 q2 : Nat) (f1 f2 : Nat → Nat) (t u b : Nat) : (wGD cI f1 q1 ++ wM cI f2 q2)[63]? = some (adF q1 q2 f1 f2 t u b 68, ce (adF q1 q2 f1 f2 t u b) cI h00 68) := rfl
theorem wp_69 (cI : ClassId) (q1 q2 : Nat) (f1 f2 : Nat → Nat) (t u b : Nat) : (wGD cI f1 q1 ++ wM cI f2 q2)[65]? = some (adF q1 q2 f1 f2 t u b 69, ce (adF q1 q2 f1 f2 t u b) cI h00 69) := rfl
theorem wp_70 (cI : ClassId) (q1 q2 : Nat) (f1 f2 : Nat → Nat) (t u b : Nat) : (wGD cI f1 q1 ++ wM cI f2 q2)[67]? = some (adF q1 q2 f1 f2 t u b 70, ce (adF q1 q2 f1 f2 t u b) cI h00 70) := rfl
theorem wp_71 (cI : ClassId) (q1 q2 : Nat) (f1 f2 : Nat → Nat) (t u b : Nat) : (wGD cI f1 q1 ++ wM cI f2 q2)[69]? = some (adF q1 q2 f1 f2 t u b 71, ce (adF q1 q2 f1 f2 t u b) cI h00 71) := rfl
theorem wp_72 (cI : ClassId) (q1 q2 : Nat) (f1 f2 : Nat → Nat) (t u b : Nat) : (wGD cI f1 q1 ++ wM cI f2 q2)[71]? = some (adF q1 q2 f1 f2 t u b 72, ce (adF q1 q2 f1 f2 t u b) cI h00 72) := rfl
theorem wp_73 (cI : ClassId) (q1 q2 : Nat) (f1 f2 : Nat → Nat) (t u b : Nat) : (wGD cI f1 q1 ++ wM cI f2 q2)[73]? = some (adF q1 q2 f1 f2 t u b 73, ce (adF q1 q2 f1 f2 t u b) cI h00 73) := rfl
theorem wp_74 (cI : ClassId) (q1 q2 : Nat) (f1 f2 : Nat → Nat) (t u b : Nat) : (wGD cI f1 q1 ++ wM cI f2 q2)[74]? = some (adF q1 q2 f1 f2 t u b 74, ce (adF q1 q2 f1 f2 t u b) cI h00 74) := rfl
theorem wp_75 (cI : ClassId) (q1 q2 : Nat) (f1 f2 : Nat → Nat) (t u b : Nat) : (wGD cI f1 q1 ++ wM cI f2 q2)[75]? = some (adF q1 q2 f1 f2 t u b 75, ce (adF q1 q2 f1 f2 t u b) cI h00 75) := rfl
theorem wp_76 (cI : ClassId) (q1 q2 : Nat) (f1 f2 : Nat → Nat) (t u b : Nat) : (wGD cI f1 q1 ++ wM cI f2 q2)[76]? = some (adF q1 q2 f1 f2 t u b 76, ce (adF q1 q2 f1 f2 t u b) cI h00 76) := rfl
theorem wp_77 (cI : ClassId) (q1 q2 : Nat) (f1 f2 : Nat → Nat) (t u b : Nat) : (wGD cI f1 q1 ++ wM cI f2 q2)[77]? = some (adF q1 q2 f1 f2 t u b 77, ce (adF q1 q2 f1 f2 t u b) cI h00 77) := rfl
theorem wp_78 (cI : ClassId) (q1 q2 : Nat) (f1 f2 : Nat → Nat) (t u b : Nat) : (wGD cI f1 q1 ++ wM cI f2 q2)[78]? = some (adF q1 q2 f1 f2 t u b 78, ce (adF q1 q2 f1 f2 t u b) cI h00 78) := rfl
theorem wp_79 (cI : ClassId) (q1 q2 : Nat) (f1 f2 : Nat → Nat) (t u b : Nat) : (wGD cI f1 q1 ++ wM cI f2 q2)[79]? = some (adF q1 q2 f1 f2 t u b 79, ce (adF q1 q2 f1 f2 t u b) cI h00 79) := rfl
theorem wp_80 (cI : ClassId) (q1 q2 : Nat) (f1 f2 : Nat → Nat) (t u b : Nat) : (wGD cI f1 q1 ++ wM cI f2 q2)[80]? = some (adF q1 q2 f1 f2 t u b 80, ce (adF q1 q2 f1 f2 t u b) cI h00 80) := rfl
theorem wp_81 (cI : ClassId) (q1 q2 : Nat) (f1 f2 : Nat → Nat) (t u b : Nat) : (wGD cI f1 q1 ++ wM cI f2 q2)[81]? = some (adF q1 q2 f1 f2 t u b 81, ce (adF q1 q2 f1 f2 t u b) cI h00 81) := rfl
theorem wp_82 (cI : ClassId) (q1 q2 : Nat) (f1 f2 : Nat → Nat) (t u b : Nat) : (wGD cI f1 q1 ++ wM cI f2 q2)[82]? = some (adF q1 q2 f1 f2 t u b 82, ce (adF q1 q2 f1 f2 t u b) cI h00 82) := rfl
theorem wp_83 (cI : ClassId) (q1 q2 : Nat) (f1 f2 : Nat → Nat) (t u b : Nat) : (wGD cI f1 q1 ++ wM cI f2 q2)[83]? = some (adF q1 q2 f1 f2 t u b 83, ce (adF q1 q2 f1 f2 t u b) cI h00 83) := rfl
theorem wp_84 (cI : ClassId) (q1 q2 : Nat) (f1 f2 : Nat → Nat) (t u b : Nat) : (wGD cI f1 q1 ++ wM cI f2 q2)[84]? = some (adF q1 q2 f1 f2 t u b 84, ce (adF q1 q2 f1 f2 t u b) cI h00 84) := rfl
theorem wp_85 (cI : ClassId) (q1 q2 : Nat) (f1 f2 : Nat → Nat) (t u b : Nat) : (wGD cI f1 q1 ++ wM cI f2 q2)[85]? = some (adF q1 q2 f1 f2 t u b 85, ce (adF q1 q2 f1 f2 t u b) cI h00 85) := rfl
theorem wp_86 (cI : ClassId) (q1 q2 : Nat) (f1 f2 : Nat → Nat) (t u b : Nat) : (wGD cI f1 q1 ++ wM cI f2 q2)[86]? = some (adF q1 q2 f1 f2 t u b 86, ce (adF q1 q2 f1 f2 t u b) cI h00 86) := rfl
theorem wp_87 (cI : ClassId) (q1 q2 : Nat) (f1 f2 : Nat → Nat) (t u b : Nat) : (wGD cI f1 q1 ++ wM cI f2 q2)[87]? = some (adF q1 q2 f1 f2 t u b 87, ce (adF q1 q2 f1 f2 t u b) cI h00 87) := rfl
theorem wp_all (cI : ClassId) (q1 q2 : Nat) (f1 f2 : Nat → Nat) (t u b : Nat) (i : Nat) (hi : i < 88) : (wGD cI f1 q1 ++ wM cI f2 q2)[posN i]? = some (adF q1 q2 f1 f2 t u b i, ce (adF q1 q2 f1 f2 t u b) cI h00 i) := by
  match i, hi with
  | 0, _ => exact wp_0 cI q1 q2 f1 f2 t u b
  | 1, _ => exact wp_1 cI q1 q2 f1 f2 t u b
  | 2, _ => exact wp_2 cI q1 q2 f1 f2 t u b
  | 3, _ => exact wp_3 cI q1 q2 f1 f2 t u b
  | 4, _ => exact wp_4 cI q1 q2 f1 f2 t u b
  | 5, _ => exact wp_5 cI q1 q2 f1 f2 t u b
  | 6, _ => exact wp_6 cI q1 q2 f1 f2 t u b
  | 7, _ => exact wp_7 cI q1 q2 f1 f2 t u b
  | 8, _ => exact wp_8 cI q1 q2 f1 f2 t u b
  | 9, _ => exact wp_9 cI q1 q2 f1 f2 t u b
  | 10, _ => exact wp_10 cI q1 q2 f1 f2 t u b
  | 11, _ => exact wp_11 cI q1 q2 f1 f2 t u b
  | 12, _ => exact wp_12 cI q1 q2 f1 f2 t u b
  | 13, _ => exact wp_13 cI q1 q2 f1 f2 t u b
  | 14, _ => exact wp_14 cI q1 q2 f1 f2 t u b
  | 15, _ => exact wp_15 cI q1 q2 f1 f2 t u b
  | 16, _ => exact wp_16 cI q1 q2 f1 f2 t u b
  | 17, _ => exact wp_17 cI q1 q2 f1 f2 t u b
  | 18, _ => exact wp_18 cI q1 q2 f1 f2 t u b
  | 19, _ => exact wp_19 cI q1 q2 f1 f2 t u b
  | 20, _ => exact wp_20 cI q1 q2 f1 f2 t u b
  | 21, _ => exact wp_21 cI q1 q2 f1 f2 t u b
  | 22, _ => exact wp_22 cI q1 q2 f1 f2 t u b
  | 23, _ => exact wp_23 cI q1 q2 f1 f2 t u b
  | 24, _ => exact wp_24 cI q1 q2 f1 f2 t u b
  | 25, _ => exact wp_25 cI q1 q2 f1 f2 t u b
  | 26, _ => exact wp_26 cI q1 q2 f1 f2 t u b
  | 27, _ => exact wp_27 cI q1 q2 f1 f2 t u b
  | 28, _ => exact wp_28 cI q1 q2 f1 f2 t u b
  | 29, _ => exact wp_29 cI q1 q2 f1 f2 t u b
  | 30, _ => exact wp_30 cI q1 q2 f1 f2 t u b
  | 31, _ => exact wp_31 cI q1 q2 f1 f2 t u b
  | 32, _ => exact wp_32 cI q1 q2 f1 f2 t u b
  | 33, _ => exact wp_33 cI q1 q2 f1 f2 t u b
  | 34, _ => exact wp_34 cI q1 q2 f1 f2 t u b
  | 35, _ => exact wp_35 cI q1 q2 f1 f2 t u b
  | 36, _ => exact wp_36 cI q1 q2 f1 f2 t u b
  | 37, _ => exact wp_37 cI q1 q2 f1 f2 t u b
  | 38, _ => exact wp_38 cI q1 q2 f1 f2 t u b
  | 39, _ => exact wp_39 cI q1 q2 f1 f2 t u b
  | 40, _ => exact wp_40 cI q1 q2 f1 f2 t u b
  | 41, _ => exact wp_41 cI q1 q2 f1 f2 t u b
  | 42, _ => exact wp_42 cI q1 q2 f1 f2 t u b
  | 43, _ => exact wp_43 cI q1 q2 f1 f2 t u b
  | 44, _ => exact wp_44 cI q1 q2 f1 f2 t u b
  | 45, _ => exact wp_45 cI q1 q2 f1 f2 t u b
  | 46, _ => exact wp_46 cI q1 q2 f1 f2 t u b
  | 47, _ => exact wp_47 cI q1 q2 f1 f2 t u b
  | 48, _ => exact wp_48 cI q1 q2 f1 f2 t u b
  | 49, _ => exact wp_49 cI q1 q2 f1 f2 t u b
  | 50, _ => exact wp_50 cI q1 q2 f1 f2 t u b
  | 51, _ => exact wp_51 cI q1 q2 f1 f2 t u b
  | 52, _ => exact wp_52 cI q1 q2 f1 f2 t u b
  | 53, _ => exact wp_53 cI q1 q2 f1 f2 t u b
  | 54, _ => exact wp_54 cI q1 q2 f1 f2 t u b
  | 55, _ => exact wp_55 cI q1 q2 f1 f2 t u b
  | 56, _ => exact wp_56 cI q1 q2 f1 f2 t u b
  | 57, _ => exact wp_57 cI q1 q2 f1 f2 t u b
  | 58, _ => exact wp_58 cI q1 q2 f1 f2 t u b
  | 59, _ => exact wp_59 cI q1 q2 f1 f2 t u b
  | 60, _ => exact wp_60 cI q1 q2 f1 f2 t u b
  | 61, _ => exact wp_61 cI q1 q2 f1 f2 t u b
  | 62, _ => exact wp_62 cI q1 q2 f1 f2 t u b
  | 63, _ => exact wp_63 cI q1 q2 f1 f2 t u b
  | 64, _ => exact wp_64 cI q1 q2 f1 f2 t u b
  | 65, _ => exact wp_65 cI q1 q2 f1 f2 t u b
  | 66, _ => exact wp_66 cI q1 q2 f1 f2 t u b
  | 67, _ => exact wp_67 cI q1 q2 f1 f2 t u b
  | 68, _ => exact wp_68 cI q1 q2 f1 f2 t u b
  | 69, _ => exact wp_69 cI q1 q2 f1 f2 t u b
  | 70, _ => exact wp_70 cI q1 q2 f1 f2 t u b
  | 71, _ => exact wp_71 cI q1 q2 f1 f2 t u b
  | 72, _ => exact wp_72 cI q1 q2 f1 f2 t u b
  | 73, _ => exact wp_73 cI q1 q2 f1 f2 t u b
  | 74, _ => exact wp_74 cI q1 q2 f1 f2 t u b
  | 75, _ => exact wp_75 cI q1 q2 f1 f2 t u b
  | 76, _ => exact wp_76 cI q1 q2 f1 f2 t u b
  | 77, _ => exact wp_77 cI q1 q2 f1 f2 t u b
  | 78, _ => exact wp_78 cI q1 q2 f1 f2 t u b
  | 79, _ => exact wp_79 cI q1 q2 f1 f2 t u b
  | 80, _ => exact wp_80 cI q1 q2 f1 f2 t u b
  | 81, _ => exact wp_81 cI q1 q2 f1 f2 t u b
  | 82, _ => exact wp_82 cI q1 q2 f1 f2 t u b
  | 83, _ => exact wp_83 cI q1 q2 f1 f2 t u b
  | 84, _ => exact wp_84 cI q1 q2 f1 f2 t u b
  | 85, _ => exact wp_85 cI q1 q2 f1 f2 t u b
  | 86, _ => exact wp_86 cI q1 q2 f1 f2 t u b
  | 87, _ => exact wp_87 cI q1 q2 f1 f2 t u b
  | n + 88, h => exact absurd h (by omega)
