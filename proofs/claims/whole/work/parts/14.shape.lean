/-! ===== the cells: what stands at which place once both objects are made ===== -/
def yN (b : Bool) : Nat := cond b 127 120
def yD (b : Bool) : Nat := cond b 120 127
def S0 : List zSh := [.inl 10, .inl 7, .inr (0, 230), .inl 8, .inr (0, 35), .inr (0, 5), .inr (0, 5), .inl 5, .inr (2, 20), .inl 8, .inr (0, 35), .inr (0, 5), .inr (0, 5), .inl 8, .inr (0, 35), .inr (0, 5), .inr (0, 5), .inl 8, .inr (0, 35), .inr (0, 5), .inr (0, 5), .inl 8, .inr (0, 35), .inr (0, 5), .inr (0, 5), .inl 8, .inr (0, 35), .inr (0, 5), .inr (0, 5), .inl 8, .inr (0, 35), .inr (0, 5), .inr (0, 5), .inl 8, .inr (0, 35), .inr (0, 5), .inr (0, 5), .inl 8, .inr (0, 35), .inr (0, 5), .inr (0, 5), .inl 8, .inr (0, 35), .inr (0, 5), .inr (0, 5), .inl 8, .inr (0, 35), .inr (0, 5), .inr (0, 5), .inl 8, .inr (0, 35), .inr (0, 5), .inr (0, 5), .inl 8, .inr (0, 35), .inr (0, 5), .inr (0, 5), .inl 8, .inr (0, 35), .inr (0, 5), .inr (0, 5), .inl 8, .inr (0, 35), .inr (0, 5), .inr (0, 5), .inl 8, .inr (0, 35), .inr (0, 5), .inr (0, 5), .inl 8, .inr (0, 35), .inr (0, 5), .inr (0, 5), .inl 8, .inr (0, 35), .inr (0, 5), .inr (0, 5), .inl 8, .inr (0, 35), .inr (0, 5), .inr (0, 5), .inl 8, .inr (0, 35), .inr (0, 5), .inr (0, 5), .inl 8, .inr (0, 35), .inr (0, 5), .inr (0, 5), .inl 3, .inl 8, .inr (0, 35), .inr (0, 5), .inr (0, 5), .inl 3, .inl 8, .inr (0, 35), .inr (0, 5), .inr (0, 5), .inl 1, .inl 4, .inr (0, 6), .inr (0, 6), .inr (0, 6), .inl 4, .inr (0, 15), .inr (0, 15), .inr (0, 15), .inl 0, .inr (0, 7), .inr (0, 4), .inr (0, 4), .inr (0, 4), .inl 6, .inr (0, 7), .inr (0, 7), .inl 2, .inr (0, 4096), .inr (0, 28), .inr (0, 7), .inl 9, .inr (0, 4), .inr (0, 7), .inr (0, 7), .inr (0, 7), .inr (0, 7), .inr (0, 7), .inl 9, .inr (0, 4), .inr (0, 7), .inr (0, 7), .inr (0, 7), .inr (0, 7), .inr (0, 7), .inl 11, .inr (0, 41), .inr (0, 41), .inr (0, 47), .inr (0, 940), .inr (0, 96), .inr (1, 2), .inr (0, 230), .inr (0, 24), .inr (0, 18), .inr (0, 45), .inr (0, 7), .inr (0, 7), .inr (0, 4), .inr (0, 4), .inr (0, 7), .inr (0, 7), .inr (0, 7), .inr (0, 32), .inr (0, 32), .inr (0, 8), .inr (0, 8), .inr (0, 8), .inr (0, 28)]
def ftab (b : Bool) : List (List (Option Nat)) := [([1, 3, 7, 89, 94, 99, 100, 104, 108, 113, 116, yN b, yD b]).map some, [some 2], [], [some 4, some 5, some 6], [], [], [], [some 8], [some 9, some 13, some 17, some 21, some 25, some 29, some 33, some 37, some 41, some 45, some 49, some 53, some 57, some 61, some 65, some 69, some 73, some 77, some 81, some 85], [some 10, some 11, some 12], [], [], [], [some 14, some 15, some 16], [], [], [], [some 18, some 19, some 20], [], [], [], [some 22, some 23, some 24], [], [], [], [some 26, some 27, some 28], [], [], [], [some 30, some 31, some 32], [], [], [], [some 34, some 35, some 36], [], [], [], [some 38, some 39, some 40], [], [], [], [some 42, some 43, some 44], [], [], [], [some 46, some 47, some 48], [], [], [], [some 50, some 51, some 52], [], [], [], [some 54, some 55, some 56], [], [], [], [some 58, some 59, some 60], [], [], [], [some 62, some 63, some 64], [], [], [], [some 66, some 67, some 68], [], [], [], [some 70, some 71, some 72], [], [], [], [some 74, some 75, some 76], [], [], [], [some 78, some 79, some 80], [], [], [], [some 82, some 83, some 84], [], [], [], [some 86, some 87, some 88], [], [], [], [some 90], [some 91, some 92, some 93], [], [], [], [some 95], [some 96, some 97, some 98], [], [], [], [], [some 101, some 102, some 103], [], [], [], [some 105, some 106, some 107], [], [], [], [some 109, some 110, some 111, some 112], [], [], [], [], [some 114, some 115], [], [], [some 117, some 118, some 119], [], [], [], [some 121, some 122, some 123, some 124, some 125, some 126], [], [], [], [], [], [], [some 128, some 129, some 130, some 131, some 132, some 133], [], [], [], [], [], [], [some 135, some 136, some 137, some 138, none, some 139, some 140, none, some 141, none, none, some 142, none, some 143, none, some 144, none, none, none, none, none, none, none, some 145, some 146, some 147, some 148, some 149, some 150, some 151, some 152, some 153, some 154, some 155, some 156, some 157], [], [], [], [], [], [], [], [], [], [], [], [], [], [], [], [], [], [], [], [], [], [], []]
def Fs (b : Bool) (p k : Nat) : Option Nat := (((ftab b)[p]?.getD [])[k]?).join
abbrev yE (D : Nat) (Q : Option Value → zMu → Prop) (Y : zMD) (pc : Nat) (L : List (Option Value)) (st : List Value) (V : Nat → Int → Int) (b : Bool) : Prop := zE (zrm D 0 0) (zb 0 0 Q) Y pc L st 0 0 (mk S0 V (Fs b))
abbrev yC (d : Nat) (Y : zMD) (As : List Value) (V : Nat → Int → Int) (b : Bool) (Q : Option Value → zMu → Prop) : Prop := zC d 0 0 Y As (mk S0 V (Fs b)) Q
/-- answers an int, the memory stays -/
def pR (b : Bool) (V : Nat → Int → Int) (P : Int → Prop) : Option Value → zMu → Prop := fun v M' => ∃ r : Int, v = some (.int (iI r)) ∧ M' = mk S0 V (Fs b) ∧ P r
/-- answers an int, the memory becomes another -/
def pI (b : Bool) (P : Int → (Nat → Int → Int) → Prop) : Option Value → zMu → Prop := fun v M' => ∃ (r : Int) (V' : Nat → Int → Int), v = some (.int (iI r)) ∧ M' = mk S0 V' (Fs b) ∧ P r V'
def pV (b : Bool) (P : (Nat → Int → Int) → Prop) : Option Value → zMu → Prop := fun v M' => ∃ V' : Nat → Int → Int, v = none ∧ M' = mk S0 V' (Fs b) ∧ P V'
section YC
variable {D d : Nat} {Q Q' : Option Value → zMu → Prop} {Y Y' : zMD} {pc pc' : Nat} {L : List (Option Value)} {st rest As : List Value} {V : Nat → Int → Int} {b : Bool} {index n : Nat}
theorem y_callVr {a ci : Nat} {T : u_T} {N : Nat} {P : Int → Prop} (ct : yC d Y' (.ref a :: As) V b (pR b V P)) (ml : zMl Y.1.cls index Y' n 0) (hd : zN Y pc (.invokevirtual index) 3 pc') (hn : As.length = n) (hst : st = As.reverse ++ .ref a :: rest) (hcl : S0[a]? = some (.inl ci)) (hC : classes[ci]? = some (Y'.1.cls, T, N)) (hD : d + 1 ≤ D) (hm : Nat.ble Y'.2.2.1 21 = true) (hw : (rest.map fun v => v.category).sum ≤ 8) (kk : ∀ r, P r → yE D Q Y pc' L (.int (iI r) :: rest) V b) : yE D Q Y pc L st V b :=
  z_callV ct ml hd hn hst hcl hC (hRok hD hm) hw (Nat.le_refl 0) (Nat.le_refl 0) (fun v M' hq => by obtain ⟨r, rfl, rfl, hp⟩ := hq; exact kk r hp)
theorem y_callVi {a ci : Nat} {T : u_T} {N : Nat} {P : Int → (Nat → Int → Int) → Prop} (ct : yC d Y' (.ref a :: As) V b (pI b P)) (ml : zMl Y.1.cls index Y' n 0) (hd : zN Y pc (.invokevirtual index) 3 pc') (hn : As.length = n) (hst : st = As.reverse ++ .ref a :: rest) (hcl : S0[a]? = some (.inl ci)) (hC : classes[ci]? = some (Y'.1.cls, T, N)) (hD : d + 1 ≤ D) (hm : Nat.ble Y'.2.2.1 21 = true) (hw : (rest.map fun v => v.category).sum ≤ 8) (kk : ∀ r V', P r V' → yE D Q Y pc' L (.int (iI r) :: rest) V' b) : yE D Q Y pc L st V b :=
  z_callV ct ml hd hn hst hcl hC (hRok hD hm) hw (Nat.le_refl 0) (Nat.le_refl 0) (fun v M' hq => by obtain ⟨r, V', rfl, rfl, hp⟩ := hq; exact kk r V' hp)
theorem y_callVv {a ci : Nat} {T : u_T} {N : Nat} {P : (Nat → Int → Int) → Prop} (ct : yC d Y' (.ref a :: As) V b (pV b P)) (ml : zMl Y.1.cls index Y' n 0) (hd : zN Y pc (.invokevirtual index) 3 pc') (hn : As.length = n) (hst : st = As.reverse ++ .ref a :: rest) (hcl : S0[a]? = some (.inl ci)) (hC : classes[ci]? = some (Y'.1.cls, T, N)) (hD : d + 1 ≤ D) (hm : Nat.ble Y'.2.2.1 21 = true) (hw : (rest.map fun v => v.category).sum ≤ 8) (kk : ∀ V', P V' → yE D Q Y pc' L rest V' b) : yE D Q Y pc L st V b :=
  z_callV ct ml hd hn hst hcl hC (hRok hD hm) hw (Nat.le_refl 0) (Nat.le_refl 0) (fun v M' hq => by obtain ⟨V', rfl, rfl, hp⟩ := hq; exact kk V' hp)
theorem y_callSr {P : Int → Prop} (ct : yC d Y' As V b (pR b V P)) (ml : zMl Y.1.cls index Y' n 1) (hd : zN Y pc (.invokestatic index) 3 pc') (hn : As.length = n) (hst : st = As.reverse ++ rest) (hD : d + 1 ≤ D) (hm : Nat.ble Y'.2.2.1 21 = true) (hw : (rest.map fun v => v.category).sum ≤ 8) (kk : ∀ r, P r → yE D Q Y pc' L (.int (iI r) :: rest) V b) : yE D Q Y pc L st V b :=
  z_callS ct ml hd hn hst (hRok hD hm) hw (Nat.le_refl 0) (Nat.le_refl 0) (fun v M' hq => by obtain ⟨r, rfl, rfl, hp⟩ := hq; exact kk r hp)
theorem y_callSi {P : Int → (Nat → Int → Int) → Prop} (ct : yC d Y' As V b (pI b P)) (ml : zMl Y.1.cls index Y' n 1) (hd : zN Y pc (.invokestatic index) 3 pc') (hn : As.length = n) (hst : st = As.reverse ++ rest) (hD : d + 1 ≤ D) (hm : Nat.ble Y'.2.2.1 21 = true) (hw : (rest.map fun v => v.category).sum ≤ 8) (kk : ∀ r V', P r V' → yE D Q Y pc' L (.int (iI r) :: rest) V' b) : yE D Q Y pc L st V b :=
  z_callS ct ml hd hn hst (hRok hD hm) hw (Nat.le_refl 0) (Nat.le_refl 0) (fun v M' hq => by obtain ⟨r, V', rfl, rfl, hp⟩ := hq; exact kk r V' hp)
theorem y_callSv {P : (Nat → Int → Int) → Prop} (ct : yC d Y' As V b (pV b P)) (ml : zMl Y.1.cls index Y' n 1) (hd : zN Y pc (.invokestatic index) 3 pc') (hn : As.length = n) (hst : st = As.reverse ++ rest) (hD : d + 1 ≤ D) (hm : Nat.ble Y'.2.2.1 21 = true) (hw : (rest.map fun v => v.category).sum ≤ 8) (kk : ∀ V', P V' → yE D Q Y pc' L rest V' b) : yE D Q Y pc L st V b :=
  z_callS ct ml hd hn hst (hRok hD hm) hw (Nat.le_refl 0) (Nat.le_refl 0) (fun v M' hq => by obtain ⟨V', rfl, rfl, hp⟩ := hq; exact kk V' hp)
end YC
theorem s_0 : S0[0]? = some (.inl 10) := rfl
theorem s_1 : S0[1]? = some (.inl 7) := rfl
theorem s_2 : S0[2]? = some (.inr (0, 230)) := rfl
theorem s_3 : S0[3]? = some (.inl 8) := rfl
theorem s_4 : S0[4]? = some (.inr (0, 35)) := rfl
theorem s_5 : S0[5]? = some (.inr (0, 5)) := rfl
theorem s_6 : S0[6]? = some (.inr (0, 5)) := rfl
theorem s_7 : S0[7]? = some (.inl 5) := rfl
theorem s_8 : S0[8]? = some (.inr (2, 20)) := rfl
theorem s_9 : S0[9]? = some (.inl 8) := rfl
theorem s_10 : S0[10]? = some (.inr (0, 35)) := rfl
theorem s_11 : S0[11]? = some (.inr (0, 5)) := rfl
theorem s_12 : S0[12]? = some (.inr (0, 5)) := rfl
theorem s_13 : S0[13]? = some (.inl 8) := rfl
theorem s_14 : S0[14]? = some (.inr (0, 35)) := rfl
theorem s_15 : S0[15]? = some (.inr (0, 5)) := rfl
theorem s_16 : S0[16]? = some (.inr (0, 5)) := rfl
theorem s_17 : S0[17]? = some (.inl 8) := rfl
theorem s_18 : S0[18]? = some (.inr (0, 35)) := rfl
theorem s_19 : S0[19]? = some (.inr (0, 5)) := rfl
theorem s_20 : S0[20]? = some (.inr (0, 5)) := rfl
theorem s_21 : S0[21]? = some (.inl 8) := rfl
theorem s_22 : S0[22]? = some (.inr (0, 35)) := rfl
theorem s_23 : S0[23]? = some (.inr (0, 5)) := rfl
theorem s_24 : S0[24]? = some (.inr (0, 5)) := rfl
theorem s_25 : S0[25]? = some (.inl 8) := rfl
theorem s_26 : S0[26]? = some (.inr (0, 35)) := rfl
theorem s_27 : S0[27]? = some (.inr (0, 5)) := rfl
theorem s_28 : S0[28]? = some (.inr (0, 5)) := rfl
theorem s_29 : S0[29]? = some (.inl 8) := rfl
theorem s_30 : S0[30]? = some (.inr (0, 35)) := rfl
theorem s_31 : S0[31]? = some (.inr (0, 5)) := rfl
theorem s_32 : S0[32]? = some (.inr (0, 5)) := rfl
theorem s_33 : S0[33]? = some (.inl 8) := rfl
theorem s_34 : S0[34]? = some (.inr (0, 35)) := rfl
theorem s_35 : S0[35]? = some (.inr (0, 5)) := rfl
theorem s_36 : S0[36]? = some (.inr (0, 5)) := rfl
theorem s_37 : S0[37]? = some (.inl 8) := rfl
theorem s_38 : S0[38]? = some (.inr (0, 35)) := rfl
theorem s_39 : S0[39]? = some (.inr (0, 5)) := rfl
theorem s_40 : S0[40]? = some (.inr (0, 5)) := rfl
theorem s_41 : S0[41]? = some (.inl 8) := rfl
theorem s_42 : S0[42]? = some (.inr (0, 35)) := rfl
theorem s_43 : S0[43]? = some (.inr (0, 5)) := rfl
theorem s_44 : S0[44]? = some (.inr (0, 5)) := rfl
theorem s_45 : S0[45]? = some (.inl 8) := rfl
theorem s_46 : S0[46]? = some (.inr (0, 35)) := rfl
theorem s_47 : S0[47]? = some (.inr (0, 5)) := rfl
theorem s_48 : S0[48]? = some (.inr (0, 5)) := rfl
theorem s_49 : S0[49]? = some (.inl 8) := rfl
theorem s_50 : S0[50]? = some (.inr (0, 35)) := rfl
theorem s_51 : S0[51]? = some (.inr (0, 5)) := rfl
theorem s_52 : S0[52]? = some (.inr (0, 5)) := rfl
theorem s_53 : S0[53]? = some (.inl 8) := rfl
theorem s_54 : S0[54]? = some (.inr (0, 35)) := rfl
theorem s_55 : S0[55]? = some (.inr (0, 5)) := rfl
theorem s_56 : S0[56]? = some (.inr (0, 5)) := rfl
theorem s_57 : S0[57]? = some (.inl 8) := rfl
theorem s_58 : S0[58]? = some (.inr (0, 35)) := rfl
theorem s_59 : S0[59]? = some (.inr (0, 5)) := rfl
theorem s_60 : S0[60]? = some (.inr (0, 5)) := rfl
theorem s_61 : S0[61]? = some (.inl 8) := rfl
theorem s_62 : S0[62]? = some (.inr (0, 35)) := rfl
theorem s_63 : S0[63]? = some (.inr (0, 5)) := rfl
theorem s_64 : S0[64]? = some (.inr (0, 5)) := rfl
theorem s_65 : S0[65]? = some (.inl 8) := rfl
theorem s_66 : S0[66]? = some (.inr (0, 35)) := rfl
theorem s_67 : S0[67]? = some (.inr (0, 5)) := rfl
theorem s_68 : S0[68]? = some (.inr (0, 5)) := rfl
theorem s_69 : S0[69]? = some (.inl 8) := rfl
theorem s_70 : S0[70]? = some (.inr (0, 35)) := rfl
theorem s_71 : S0[71]? = some (.inr (0, 5)) := rfl
theorem s_72 : S0[72]? = some (.inr (0, 5)) := rfl
theorem s_73 : S0[73]? = some (.inl 8) := rfl
theorem s_74 : S0[74]? = some (.inr (0, 35)) := rfl
theorem s_75 : S0[75]? = some (.inr (0, 5)) := rfl
theorem s_76 : S0[76]? = some (.inr (0, 5)) := rfl
theorem s_77 : S0[77]? = some (.inl 8) := rfl
theorem s_78 : S0[78]? = some (.inr (0, 35)) := rfl
theorem s_79 : S0[79]? = some (.inr (0, 5)) := rfl
theorem s_80 : S0[80]? = some (.inr (0, 5)) := rfl
theorem s_81 : S0[81]? = some (.inl 8) := rfl
theorem s_82 : S0[82]? = some (.inr (0, 35)) := rfl
theorem s_83 : S0[83]? = some (.inr (0, 5)) := rfl
theorem s_84 : S0[84]? = some (.inr (0, 5)) := rfl
theorem s_85 : S0[85]? = some (.inl 8) := rfl
theorem s_86 : S0[86]? = some (.inr (0, 35)) := rfl
theorem s_87 : S0[87]? = some (.inr (0, 5)) := rfl
theorem s_88 : S0[88]? = some (.inr (0, 5)) := rfl
theorem s_89 : S0[89]? = some (.inl 3) := rfl
theorem s_90 : S0[90]? = some (.inl 8) := rfl
theorem s_91 : S0[91]? = some (.inr (0, 35)) := rfl
theorem s_92 : S0[92]? = some (.inr (0, 5)) := rfl
theorem s_93 : S0[93]? = some (.inr (0, 5)) := rfl
theorem s_94 : S0[94]? = some (.inl 3) := rfl
theorem s_95 : S0[95]? = some (.inl 8) := rfl
theorem s_96 : S0[96]? = some (.inr (0, 35)) := rfl
theorem s_97 : S0[97]? = some (.inr (0, 5)) := rfl
theorem s_98 : S0[98]? = some (.inr (0, 5)) := rfl
theorem s_99 : S0[99]? = some (.inl 1) := rfl
theorem s_100 : S0[100]? = some (.inl 4) := rfl
theorem s_101 : S0[101]? = some (.inr (0, 6)) := rfl
theorem s_102 : S0[102]? = some (.inr (0, 6)) := rfl
theorem s_103 : S0[103]? = some (.inr (0, 6)) := rfl
theorem s_104 : S0[104]? = some (.inl 4) := rfl
theorem s_105 : S0[105]? = some (.inr (0, 15)) := rfl
theorem s_106 : S0[106]? = some (.inr (0, 15)) := rfl
theorem s_107 : S0[107]? = some (.inr (0, 15)) := rfl
theorem s_108 : S0[108]? = some (.inl 0) := rfl
theorem s_109 : S0[109]? = some (.inr (0, 7)) := rfl
theorem s_110 : S0[110]? = some (.inr (0, 4)) := rfl
theorem s_111 : S0[111]? = some (.inr (0, 4)) := rfl
theorem s_112 : S0[112]? = some (.inr (0, 4)) := rfl
theorem s_113 : S0[113]? = some (.inl 6) := rfl
theorem s_114 : S0[114]? = some (.inr (0, 7)) := rfl
theorem s_115 : S0[115]? = some (.inr (0, 7)) := rfl
theorem s_116 : S0[116]? = some (.inl 2) := rfl
theorem s_117 : S0[117]? = some (.inr (0, 4096)) := rfl
theorem s_118 : S0[118]? = some (.inr (0, 28)) := rfl
theorem s_119 : S0[119]? = some (.inr (0, 7)) := rfl
theorem s_120 : S0[120]? = some (.inl 9) := rfl
theorem s_121 : S0[121]? = some (.inr (0, 4)) := rfl
theorem s_122 : S0[122]? = some (.inr (0, 7)) := rfl
theorem s_123 : S0[123]? = some (.inr (0, 7)) := rfl
theorem s_124 : S0[124]? = some (.inr (0, 7)) := rfl
theorem s_125 : S0[125]? = some (.inr (0, 7)) := rfl
theorem s_126 : S0[126]? = some (.inr (0, 7)) := rfl
theorem s_127 : S0[127]? = some (.inl 9) := rfl
theorem s_128 : S0[128]? = some (.inr (0, 4)) := rfl
theorem s_129 : S0[129]? = some (.inr (0, 7)) := rfl
theorem s_130 : S0[130]? = some (.inr (0, 7)) := rfl
theorem s_131 : S0[131]? = some (.inr (0, 7)) := rfl
theorem s_132 : S0[132]? = some (.inr (0, 7)) := rfl
theorem s_133 : S0[133]? = some (.inr (0, 7)) := rfl
theorem s_134 : S0[134]? = some (.inl 11) := rfl
theorem s_135 : S0[135]? = some (.inr (0, 41)) := rfl
theorem s_136 : S0[136]? = some (.inr (0, 41)) := rfl
theorem s_137 : S0[137]? = some (.inr (0, 47)) := rfl
theorem s_138 : S0[138]? = some (.inr (0, 940)) := rfl
theorem s_139 : S0[139]? = some (.inr (0, 96)) := rfl
theorem s_140 : S0[140]? = some (.inr (1, 2)) := rfl
theorem s_141 : S0[141]? = some (.inr (0, 230)) := rfl
theorem s_142 : S0[142]? = some (.inr (0, 24)) := rfl
theorem s_143 : S0[143]? = some (.inr (0, 18)) := rfl
theorem s_144 : S0[144]? = some (.inr (0, 45)) := rfl
theorem s_145 : S0[145]? = some (.inr (0, 7)) := rfl
theorem s_146 : S0[146]? = some (.inr (0, 7)) := rfl
theorem s_147 : S0[147]? = some (.inr (0, 4)) := rfl
theorem s_148 : S0[148]? = some (.inr (0, 4)) := rfl
theorem s_149 : S0[149]? = some (.inr (0, 7)) := rfl
theorem s_150 : S0[150]? = some (.inr (0, 7)) := rfl
theorem s_151 : S0[151]? = some (.inr (0, 7)) := rfl
theorem s_152 : S0[152]? = some (.inr (0, 32)) := rfl
theorem s_153 : S0[153]? = some (.inr (0, 32)) := rfl
theorem s_154 : S0[154]? = some (.inr (0, 8)) := rfl
theorem s_155 : S0[155]? = some (.inr (0, 8)) := rfl
theorem s_156 : S0[156]? = some (.inr (0, 8)) := rfl
theorem s_157 : S0[157]? = some (.inr (0, 28)) := rfl
