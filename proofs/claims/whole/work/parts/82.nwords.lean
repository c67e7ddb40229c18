/-! constructors: their words; the cells of an object that is made -/
def zf (t : Nat) : List Value := (List.range (nf t)).map (fun i => if (fk t i).1 = 0 then .int 0 else .null)
def kB (t : Nat) : List Nat := (List.range 47).filter (okj t)
/-- what the cells of an object hold: z its numbers, o the objects, sc the scenes in its row, a its cells' addresses -/
def eB (cy : Nat → ClassId) (t : Nat) (z : Nat → Int32) (o sc a : Nat → Nat) : Nat → va_E
  | 0 => .inr (t, (List.range (nf t)).map (fun i => match fk t i with
    | (0, _) => .int (z i)
    | (4, _) => .ref (o i)
    | _ => .ref (a (i + 1))))
  | i + 1 => match fk t i with
    | (1, n) => .inl (cy 0, n, .inl (fun _ => 0))
    | (2, n) => .inl (cy 1, n, .inl (fun _ => 0))
    | (_, n) => .inl (cy 2, n, .inr (.inr (.inr (.inr (fun x => some (sc x))))))
def bw (cy : Nat → ClassId) (t : Nat) (z : Nat → Int32) (o sc a : Nat → Nat) : va_W := (kB t).map (fun j => (a j, eB cy t z o sc a j))
theorem yi_10 : YI yX10_init cX10_init 1 0 := ⟨tb_of (i := 20) (by decide +kernel) rfl, tb_of (i := 19) (by decide +kernel) rfl, tb_of (i := 1) (by decide +kernel) rfl, by decide +kernel, by decide +kernel, by decide +kernel, by decide, rfl⟩
theorem yi_11 : YI yX11_init cX11_init 1 0 := ⟨tb_of (i := 844) (by decide +kernel) rfl, tb_of (i := 843) (by decide +kernel) rfl, tb_of (i := 12) (by decide +kernel) rfl, by decide +kernel, by decide +kernel, by decide +kernel, by decide, rfl⟩
theorem yi_0 : YI yX0_init cX0_init 1 0 := ⟨tb_of (i := 272) (by decide +kernel) rfl, tb_of (i := 271) (by decide +kernel) rfl, tb_of (i := 10) (by decide +kernel) rfl, by decide +kernel, by decide +kernel, by decide +kernel, by decide, rfl⟩
theorem yi_1 : YI yX1_init cX1_init 1 0 := ⟨tb_of (i := 289) (by decide +kernel) rfl, tb_of (i := 288) (by decide +kernel) rfl, tb_of (i := 11) (by decide +kernel) rfl, by decide +kernel, by decide +kernel, by decide +kernel, by decide, rfl⟩
theorem yi_2 : YI yX2_init cX2_init 3 1 := ⟨tb_of (i := 220) (by decide +kernel) rfl, tb_of (i := 219) (by decide +kernel) rfl, tb_of (i := 7) (by decide +kernel) rfl, by decide +kernel, by decide +kernel, by decide +kernel, by decide, rfl⟩
theorem yi_3 : YI yX3_init cX3_init 3 1 := ⟨tb_of (i := 200) (by decide +kernel) rfl, tb_of (i := 199) (by decide +kernel) rfl, tb_of (i := 6) (by decide +kernel) rfl, by decide +kernel, by decide +kernel, by decide +kernel, by decide, rfl⟩
theorem yi_4 : YI yX4_init cX4_init 1 0 := ⟨tb_of (i := 50) (by decide +kernel) rfl, tb_of (i := 49) (by decide +kernel) rfl, tb_of (i := 4) (by decide +kernel) rfl, by decide +kernel, by decide +kernel, by decide +kernel, by decide, rfl⟩
theorem yi_5 : YI yX5_init cX5_init 1 0 := ⟨tb_of (i := 44) (by decide +kernel) rfl, tb_of (i := 43) (by decide +kernel) rfl, tb_of (i := 3) (by decide +kernel) rfl, by decide +kernel, by decide +kernel, by decide +kernel, by decide, rfl⟩
theorem yi_6 : YI yX6_init cX6_init 3 1 := ⟨tb_of (i := 239) (by decide +kernel) rfl, tb_of (i := 238) (by decide +kernel) rfl, tb_of (i := 8) (by decide +kernel) rfl, by decide +kernel, by decide +kernel, by decide +kernel, by decide, rfl⟩
theorem yi_7 : YI yX7_init cX7_init 2 1 := ⟨tb_of (i := 141) (by decide +kernel) rfl, tb_of (i := 140) (by decide +kernel) rfl, tb_of (i := 5) (by decide +kernel) rfl, by decide +kernel, by decide +kernel, by decide +kernel, by decide, rfl⟩
theorem yi_8 : YI yX8_init cX8_init 1 0 := ⟨tb_of (i := 255) (by decide +kernel) rfl, tb_of (i := 254) (by decide +kernel) rfl, tb_of (i := 9) (by decide +kernel) rfl, by decide +kernel, by decide +kernel, by decide +kernel, by decide, rfl⟩
theorem yi_9 : YI yX9_init cX9_init 1 0 := ⟨tb_of (i := 28) (by decide +kernel) rfl, tb_of (i := 27) (by decide +kernel) rfl, tb_of (i := 2) (by decide +kernel) rfl, by decide +kernel, by decide +kernel, by decide +kernel, by decide, rfl⟩
theorem oi_10 : Cond.methodLink RX10 1 objectInit ∈ TB := tb_of (i := 21) (by decide +kernel) rfl
theorem cl_10_7 : Cond.classLink RX10 7 RX9 ∈ TB := tb_of (i := 24) (by decide +kernel) rfl
theorem yn_10_7 : YN RX10 7 9 := ⟨RX9, rfl, cl_10_7, tb_of (i := 25) (by decide +kernel) rfl, tb_of (i := 2) (by decide +kernel) rfl⟩
theorem mi_10_9 : ML RX10 9 yX9_init := Or.inr ⟨"RollingCodes", nb_of (i := 26) (by decide +kernel) rfl⟩
theorem fw_10_10 : Cond.fieldLink RX10 10 (fT 10 0).1 (fT 10 0).2.1 (fT 10 0).2.2.1 ∈ TB := tb_of (i := 313) (by decide +kernel) rfl
theorem cl_10_16 : Cond.classLink RX10 16 RX5 ∈ TB := tb_of (i := 40) (by decide +kernel) rfl
theorem yn_10_16 : YN RX10 16 5 := ⟨RX5, rfl, cl_10_16, tb_of (i := 41) (by decide +kernel) rfl, tb_of (i := 3) (by decide +kernel) rfl⟩
theorem mi_10_18 : ML RX10 18 yX5_init := Or.inr ⟨"RollingCodes", nb_of (i := 42) (by decide +kernel) rfl⟩
theorem fw_10_19 : Cond.fieldLink RX10 19 (fT 10 1).1 (fT 10 1).2.1 (fT 10 1).2.2.1 ∈ TB := tb_of (i := 314) (by decide +kernel) rfl
theorem cl_10_23 : Cond.classLink RX10 23 RX4 ∈ TB := tb_of (i := 135) (by decide +kernel) rfl
theorem yn_10_23 : YN RX10 23 4 := ⟨RX4, rfl, cl_10_23, tb_of (i := 47) (by decide +kernel) rfl, tb_of (i := 4) (by decide +kernel) rfl⟩
theorem mi_10_25 : ML RX10 25 yX4_init := Or.inr ⟨"RollingCodes", nb_of (i := 136) (by decide +kernel) rfl⟩
theorem fw_10_26 : Cond.fieldLink RX10 26 (fT 10 2).1 (fT 10 2).2.1 (fT 10 2).2.2.1 ∈ TB := tb_of (i := 315) (by decide +kernel) rfl
theorem cl_10_30 : Cond.classLink RX10 30 RX7 ∈ TB := tb_of (i := 137) (by decide +kernel) rfl
theorem yn_10_30 : YN RX10 30 7 := ⟨RX7, rfl, cl_10_30, tb_of (i := 138) (by decide +kernel) rfl, tb_of (i := 5) (by decide +kernel) rfl⟩
theorem mi_10_32 : ML RX10 32 yX7_init := Or.inr ⟨"RollingCodes", nb_of (i := 139) (by decide +kernel) rfl⟩
theorem fw_10_35 : Cond.fieldLink RX10 35 (fT 10 3).1 (fT 10 3).2.1 (fT 10 3).2.2.1 ∈ TB := tb_of (i := 316) (by decide +kernel) rfl
theorem fw_10_39 : Cond.fieldLink RX10 39 (fT 10 4).1 (fT 10 4).2.1 (fT 10 4).2.2.1 ∈ TB := tb_of (i := 317) (by decide +kernel) rfl
theorem cl_10_42 : Cond.classLink RX10 42 RX3 ∈ TB := tb_of (i := 196) (by decide +kernel) rfl
theorem yn_10_42 : YN RX10 42 3 := ⟨RX3, rfl, cl_10_42, tb_of (i := 197) (by decide +kernel) rfl, tb_of (i := 6) (by decide +kernel) rfl⟩
theorem mi_10_44 : ML RX10 44 yX3_init := Or.inr ⟨"RollingCodes", nb_of (i := 198) (by decide +kernel) rfl⟩
theorem fw_10_45 : Cond.fieldLink RX10 45 (fT 10 5).1 (fT 10 5).2.1 (fT 10 5).2.2.1 ∈ TB := tb_of (i := 318) (by decide +kernel) rfl
theorem cl_10_49 : Cond.classLink RX10 49 RX2 ∈ TB := tb_of (i := 216) (by decide +kernel) rfl
theorem yn_10_49 : YN RX10 49 2 := ⟨RX2, rfl, cl_10_49, tb_of (i := 217) (by decide +kernel) rfl, tb_of (i := 7) (by decide +kernel) rfl⟩
theorem mi_10_51 : ML RX10 51 yX2_init := Or.inr ⟨"RollingCodes", nb_of (i := 218) (by decide +kernel) rfl⟩
theorem fw_10_52 : Cond.fieldLink RX10 52 (fT 10 6).1 (fT 10 6).2.1 (fT 10 6).2.2.1 ∈ TB := tb_of (i := 319) (by decide +kernel) rfl
theorem cl_10_56 : Cond.classLink RX10 56 RX6 ∈ TB := tb_of (i := 235) (by decide +kernel) rfl
theorem yn_10_56 : YN RX10 56 6 := ⟨RX6, rfl, cl_10_56, tb_of (i := 236) (by decide +kernel) rfl, tb_of (i := 8) (by decide +kernel) rfl⟩
theorem mi_10_58 : ML RX10 58 yX6_init := Or.inr ⟨"RollingCodes", nb_of (i := 237) (by decide +kernel) rfl⟩
theorem fw_10_59 : Cond.fieldLink RX10 59 (fT 10 7).1 (fT 10 7).2.1 (fT 10 7).2.2.1 ∈ TB := tb_of (i := 320) (by decide +kernel) rfl
theorem cl_10_63 : Cond.classLink RX10 63 RX8 ∈ TB := tb_of (i := 251) (by decide +kernel) rfl
theorem yn_10_63 : YN RX10 63 8 := ⟨RX8, rfl, cl_10_63, tb_of (i := 252) (by decide +kernel) rfl, tb_of (i := 9) (by decide +kernel) rfl⟩
theorem mi_10_65 : ML RX10 65 yX8_init := Or.inr ⟨"RollingCodes", nb_of (i := 253) (by decide +kernel) rfl⟩
theorem fw_10_66 : Cond.fieldLink RX10 66 (fT 10 8).1 (fT 10 8).2.1 (fT 10 8).2.2.1 ∈ TB := tb_of (i := 321) (by decide +kernel) rfl
theorem cl_10_70 : Cond.classLink RX10 70 RX0 ∈ TB := tb_of (i := 268) (by decide +kernel) rfl
theorem yn_10_70 : YN RX10 70 0 := ⟨RX0, rfl, cl_10_70, tb_of (i := 269) (by decide +kernel) rfl, tb_of (i := 10) (by decide +kernel) rfl⟩
theorem mi_10_72 : ML RX10 72 yX0_init := Or.inr ⟨"RollingCodes", nb_of (i := 270) (by decide +kernel) rfl⟩
theorem fw_10_73 : Cond.fieldLink RX10 73 (fT 10 9).1 (fT 10 9).2.1 (fT 10 9).2.2.1 ∈ TB := tb_of (i := 322) (by decide +kernel) rfl
theorem cl_10_77 : Cond.classLink RX10 77 RX1 ∈ TB := tb_of (i := 285) (by decide +kernel) rfl
theorem yn_10_77 : YN RX10 77 1 := ⟨RX1, rfl, cl_10_77, tb_of (i := 286) (by decide +kernel) rfl, tb_of (i := 11) (by decide +kernel) rfl⟩
theorem mi_10_79 : ML RX10 79 yX1_init := Or.inr ⟨"RollingCodes", nb_of (i := 287) (by decide +kernel) rfl⟩
theorem fw_10_80 : Cond.fieldLink RX10 80 (fT 10 10).1 (fT 10 10).2.1 (fT 10 10).2.2.1 ∈ TB := tb_of (i := 323) (by decide +kernel) rfl
theorem fw_10_84 : Cond.fieldLink RX10 84 (fT 10 11).1 (fT 10 11).2.1 (fT 10 11).2.2.1 ∈ TB := tb_of (i := 324) (by decide +kernel) rfl
theorem oi_11 : Cond.methodLink RX11 1 objectInit ∈ TB := tb_of (i := 845) (by decide +kernel) rfl
theorem fw_11_7 : Cond.fieldLink RX11 7 (fT 11 4).1 (fT 11 4).2.1 (fT 11 4).2.2.1 ∈ TB := tb_of (i := 850) (by decide +kernel) rfl
theorem fw_11_13 : Cond.fieldLink RX11 13 (fT 11 5).1 (fT 11 5).2.1 (fT 11 5).2.2.1 ∈ TB := tb_of (i := 851) (by decide +kernel) rfl
theorem fw_11_16 : Cond.fieldLink RX11 16 (fT 11 6).1 (fT 11 6).2.1 (fT 11 6).2.2.1 ∈ TB := tb_of (i := 852) (by decide +kernel) rfl
theorem fw_11_19 : Cond.fieldLink RX11 19 (fT 11 8).1 (fT 11 8).2.1 (fT 11 8).2.2.1 ∈ TB := tb_of (i := 854) (by decide +kernel) rfl
theorem fw_11_22 : Cond.fieldLink RX11 22 (fT 11 9).1 (fT 11 9).2.1 (fT 11 9).2.2.1 ∈ TB := tb_of (i := 855) (by decide +kernel) rfl
theorem fw_11_25 : Cond.fieldLink RX11 25 (fT 11 10).1 (fT 11 10).2.1 (fT 11 10).2.2.1 ∈ TB := tb_of (i := 856) (by decide +kernel) rfl
theorem fw_11_28 : Cond.fieldLink RX11 28 (fT 11 11).1 (fT 11 11).2.1 (fT 11 11).2.2.1 ∈ TB := tb_of (i := 857) (by decide +kernel) rfl
theorem fw_11_31 : Cond.fieldLink RX11 31 (fT 11 12).1 (fT 11 12).2.1 (fT 11 12).2.2.1 ∈ TB := tb_of (i := 858) (by decide +kernel) rfl
theorem fw_11_34 : Cond.fieldLink RX11 34 (fT 11 13).1 (fT 11 13).2.1 (fT 11 13).2.2.1 ∈ TB := tb_of (i := 859) (by decide +kernel) rfl
theorem fw_11_37 : Cond.fieldLink RX11 37 (fT 11 15).1 (fT 11 15).2.1 (fT 11 15).2.2.1 ∈ TB := tb_of (i := 861) (by decide +kernel) rfl
theorem fw_11_40 : Cond.fieldLink RX11 40 (fT 11 17).1 (fT 11 17).2.1 (fT 11 17).2.2.1 ∈ TB := tb_of (i := 863) (by decide +kernel) rfl
theorem fw_11_44 : Cond.fieldLink RX11 44 (fT 11 21).1 (fT 11 21).2.1 (fT 11 21).2.2.1 ∈ TB := tb_of (i := 867) (by decide +kernel) rfl
theorem fw_11_47 : Cond.fieldLink RX11 47 (fT 11 23).1 (fT 11 23).2.1 (fT 11 23).2.2.1 ∈ TB := tb_of (i := 869) (by decide +kernel) rfl
theorem fw_11_50 : Cond.fieldLink RX11 50 (fT 11 24).1 (fT 11 24).2.1 (fT 11 24).2.2.1 ∈ TB := tb_of (i := 870) (by decide +kernel) rfl
theorem fw_11_53 : Cond.fieldLink RX11 53 (fT 11 25).1 (fT 11 25).2.1 (fT 11 25).2.2.1 ∈ TB := tb_of (i := 871) (by decide +kernel) rfl
theorem fw_11_56 : Cond.fieldLink RX11 56 (fT 11 27).1 (fT 11 27).2.1 (fT 11 27).2.2.1 ∈ TB := tb_of (i := 873) (by decide +kernel) rfl
theorem fw_11_59 : Cond.fieldLink RX11 59 (fT 11 28).1 (fT 11 28).2.1 (fT 11 28).2.2.1 ∈ TB := tb_of (i := 874) (by decide +kernel) rfl
theorem fw_11_62 : Cond.fieldLink RX11 62 (fT 11 29).1 (fT 11 29).2.1 (fT 11 29).2.2.1 ∈ TB := tb_of (i := 875) (by decide +kernel) rfl
theorem fw_11_65 : Cond.fieldLink RX11 65 (fT 11 30).1 (fT 11 30).2.1 (fT 11 30).2.2.1 ∈ TB := tb_of (i := 876) (by decide +kernel) rfl
theorem fw_11_68 : Cond.fieldLink RX11 68 (fT 11 31).1 (fT 11 31).2.1 (fT 11 31).2.2.1 ∈ TB := tb_of (i := 877) (by decide +kernel) rfl
theorem fw_11_71 : Cond.fieldLink RX11 71 (fT 11 33).1 (fT 11 33).2.1 (fT 11 33).2.2.1 ∈ TB := tb_of (i := 879) (by decide +kernel) rfl
theorem fw_11_74 : Cond.fieldLink RX11 74 (fT 11 34).1 (fT 11 34).2.1 (fT 11 34).2.2.1 ∈ TB := tb_of (i := 880) (by decide +kernel) rfl
theorem fw_11_77 : Cond.fieldLink RX11 77 (fT 11 38).1 (fT 11 38).2.1 (fT 11 38).2.2.1 ∈ TB := tb_of (i := 884) (by decide +kernel) rfl
theorem fw_11_80 : Cond.fieldLink RX11 80 (fT 11 39).1 (fT 11 39).2.1 (fT 11 39).2.2.1 ∈ TB := tb_of (i := 885) (by decide +kernel) rfl
theorem fw_11_83 : Cond.fieldLink RX11 83 (fT 11 40).1 (fT 11 40).2.1 (fT 11 40).2.2.1 ∈ TB := tb_of (i := 886) (by decide +kernel) rfl
theorem fw_11_86 : Cond.fieldLink RX11 86 (fT 11 42).1 (fT 11 42).2.1 (fT 11 42).2.2.1 ∈ TB := tb_of (i := 888) (by decide +kernel) rfl
theorem fw_11_89 : Cond.fieldLink RX11 89 (fT 11 43).1 (fT 11 43).2.1 (fT 11 43).2.2.1 ∈ TB := tb_of (i := 889) (by decide +kernel) rfl
theorem fw_11_92 : Cond.fieldLink RX11 92 (fT 11 44).1 (fT 11 44).2.1 (fT 11 44).2.2.1 ∈ TB := tb_of (i := 890) (by decide +kernel) rfl
theorem fw_11_95 : Cond.fieldLink RX11 95 (fT 11 45).1 (fT 11 45).2.1 (fT 11 45).2.2.1 ∈ TB := tb_of (i := 891) (by decide +kernel) rfl
theorem fw_11_99 : Cond.fieldLink RX11 99 (fT 11 3).1 (fT 11 3).2.1 (fT 11 3).2.2.1 ∈ TB := tb_of (i := 849) (by decide +kernel) rfl
theorem oi_0 : Cond.methodLink RX0 3 objectInit ∈ TB := tb_of (i := 273) (by decide +kernel) rfl
theorem fw_0_9 : Cond.fieldLink RX0 9 (fT 0 0).1 (fT 0 0).2.1 (fT 0 0).2.2.1 ∈ TB := tb_of (i := 274) (by decide +kernel) rfl
theorem fw_0_15 : Cond.fieldLink RX0 15 (fT 0 1).1 (fT 0 1).2.1 (fT 0 1).2.2.1 ∈ TB := tb_of (i := 275) (by decide +kernel) rfl
theorem oi_1 : Cond.methodLink RX1 1 objectInit ∈ TB := tb_of (i := 290) (by decide +kernel) rfl
theorem oi_2 : Cond.methodLink RX2 3 objectInit ∈ TB := tb_of (i := 221) (by decide +kernel) rfl
theorem cl_2_9 : Cond.classLink RX2 9 RX7 ∈ TB := tb_of (i := 222) (by decide +kernel) rfl
theorem yn_2_9 : YN RX2 9 7 := ⟨RX7, rfl, cl_2_9, tb_of (i := 138) (by decide +kernel) rfl, tb_of (i := 5) (by decide +kernel) rfl⟩
theorem fw_2_11 : Cond.fieldLink RX2 11 (fT 2 0).1 (fT 2 0).2.1 (fT 2 0).2.2.1 ∈ TB := tb_of (i := 224) (by decide +kernel) rfl
theorem fw_2_17 : Cond.fieldLink RX2 17 (fT 2 1).1 (fT 2 1).2.1 (fT 2 1).2.2.1 ∈ TB := tb_of (i := 225) (by decide +kernel) rfl
theorem fw_2_21 : Cond.fieldLink RX2 21 (fT 2 2).1 (fT 2 2).2.1 (fT 2 2).2.2.1 ∈ TB := tb_of (i := 226) (by decide +kernel) rfl
theorem mi_2_25 : ML RX2 25 yX7_init := Or.inr ⟨"RollingCodes", nb_of (i := 223) (by decide +kernel) rfl⟩
theorem oi_3 : Cond.methodLink RX3 3 objectInit ∈ TB := tb_of (i := 201) (by decide +kernel) rfl
theorem cl_3_9 : Cond.classLink RX3 9 RX7 ∈ TB := tb_of (i := 202) (by decide +kernel) rfl
theorem yn_3_9 : YN RX3 9 7 := ⟨RX7, rfl, cl_3_9, tb_of (i := 138) (by decide +kernel) rfl, tb_of (i := 5) (by decide +kernel) rfl⟩
theorem fw_3_11 : Cond.fieldLink RX3 11 (fT 3 0).1 (fT 3 0).2.1 (fT 3 0).2.2.1 ∈ TB := tb_of (i := 205) (by decide +kernel) rfl
theorem mi_3_17 : ML RX3 17 yX7_init := Or.inr ⟨"RollingCodes", nb_of (i := 204) (by decide +kernel) rfl⟩
theorem oi_4 : Cond.methodLink RX4 3 objectInit ∈ TB := tb_of (i := 51) (by decide +kernel) rfl
theorem fw_4_9 : Cond.fieldLink RX4 9 (fT 4 5).1 (fT 4 5).2.1 (fT 4 5).2.2.1 ∈ TB := tb_of (i := 68) (by decide +kernel) rfl
theorem fw_4_15 : Cond.fieldLink RX4 15 (fT 4 6).1 (fT 4 6).2.1 (fT 4 6).2.2.1 ∈ TB := tb_of (i := 71) (by decide +kernel) rfl
theorem fw_4_18 : Cond.fieldLink RX4 18 (fT 4 7).1 (fT 4 7).2.1 (fT 4 7).2.2.1 ∈ TB := tb_of (i := 74) (by decide +kernel) rfl
theorem fw_4_21 : Cond.fieldLink RX4 21 (fT 4 8).1 (fT 4 8).2.1 (fT 4 8).2.2.1 ∈ TB := tb_of (i := 76) (by decide +kernel) rfl
theorem fw_4_24 : Cond.fieldLink RX4 24 (fT 4 9).1 (fT 4 9).2.1 (fT 4 9).2.2.1 ∈ TB := tb_of (i := 79) (by decide +kernel) rfl
theorem fw_4_27 : Cond.fieldLink RX4 27 (fT 4 10).1 (fT 4 10).2.1 (fT 4 10).2.2.1 ∈ TB := tb_of (i := 81) (by decide +kernel) rfl
theorem fw_4_30 : Cond.fieldLink RX4 30 (fT 4 11).1 (fT 4 11).2.1 (fT 4 11).2.2.1 ∈ TB := tb_of (i := 84) (by decide +kernel) rfl
theorem fw_4_33 : Cond.fieldLink RX4 33 (fT 4 12).1 (fT 4 12).2.1 (fT 4 12).2.2.1 ∈ TB := tb_of (i := 87) (by decide +kernel) rfl
theorem oi_5 : Cond.methodLink RX5 3 objectInit ∈ TB := tb_of (i := 45) (by decide +kernel) rfl
theorem cl_5_9 : Cond.classLink RX5 9 RX4 ∈ TB := tb_of (i := 46) (by decide +kernel) rfl
theorem yn_5_9 : YN RX5 9 4 := ⟨RX4, rfl, cl_5_9, tb_of (i := 47) (by decide +kernel) rfl, tb_of (i := 4) (by decide +kernel) rfl⟩
theorem mi_5_11 : ML RX5 11 yX4_init := Or.inr ⟨"RollingCodes", nb_of (i := 48) (by decide +kernel) rfl⟩
theorem fw_5_12 : Cond.fieldLink RX5 12 (fT 5 0).1 (fT 5 0).2.1 (fT 5 0).2.2.1 ∈ TB := tb_of (i := 116) (by decide +kernel) rfl
theorem fw_5_18 : Cond.fieldLink RX5 18 (fT 5 1).1 (fT 5 1).2.1 (fT 5 1).2.2.1 ∈ TB := tb_of (i := 118) (by decide +kernel) rfl
theorem oi_6 : Cond.methodLink RX6 3 objectInit ∈ TB := tb_of (i := 240) (by decide +kernel) rfl
theorem cl_6_9 : Cond.classLink RX6 9 RX7 ∈ TB := tb_of (i := 241) (by decide +kernel) rfl
theorem yn_6_9 : YN RX6 9 7 := ⟨RX7, rfl, cl_6_9, tb_of (i := 138) (by decide +kernel) rfl, tb_of (i := 5) (by decide +kernel) rfl⟩
theorem fw_6_11 : Cond.fieldLink RX6 11 (fT 6 0).1 (fT 6 0).2.1 (fT 6 0).2.2.1 ∈ TB := tb_of (i := 243) (by decide +kernel) rfl
theorem fw_6_17 : Cond.fieldLink RX6 17 (fT 6 1).1 (fT 6 1).2.1 (fT 6 1).2.2.1 ∈ TB := tb_of (i := 244) (by decide +kernel) rfl
theorem mi_6_21 : ML RX6 21 yX7_init := Or.inr ⟨"RollingCodes", nb_of (i := 242) (by decide +kernel) rfl⟩
theorem oi_7 : Cond.methodLink RX7 3 objectInit ∈ TB := tb_of (i := 142) (by decide +kernel) rfl
theorem fw_7_9 : Cond.fieldLink RX7 9 (fT 7 5).1 (fT 7 5).2.1 (fT 7 5).2.2.1 ∈ TB := tb_of (i := 153) (by decide +kernel) rfl
theorem fw_7_15 : Cond.fieldLink RX7 15 (fT 7 6).1 (fT 7 6).2.1 (fT 7 6).2.2.1 ∈ TB := tb_of (i := 155) (by decide +kernel) rfl
theorem fw_7_18 : Cond.fieldLink RX7 18 (fT 7 7).1 (fT 7 7).2.1 (fT 7 7).2.2.1 ∈ TB := tb_of (i := 157) (by decide +kernel) rfl
theorem fw_7_21 : Cond.fieldLink RX7 21 (fT 7 8).1 (fT 7 8).2.1 (fT 7 8).2.2.1 ∈ TB := tb_of (i := 159) (by decide +kernel) rfl
theorem fw_7_24 : Cond.fieldLink RX7 24 (fT 7 9).1 (fT 7 9).2.1 (fT 7 9).2.2.1 ∈ TB := tb_of (i := 161) (by decide +kernel) rfl
theorem fw_7_27 : Cond.fieldLink RX7 27 (fT 7 10).1 (fT 7 10).2.1 (fT 7 10).2.2.1 ∈ TB := tb_of (i := 164) (by decide +kernel) rfl
theorem fw_7_30 : Cond.fieldLink RX7 30 (fT 7 11).1 (fT 7 11).2.1 (fT 7 11).2.2.1 ∈ TB := tb_of (i := 166) (by decide +kernel) rfl
theorem fw_7_33 : Cond.fieldLink RX7 33 (fT 7 12).1 (fT 7 12).2.1 (fT 7 12).2.2.1 ∈ TB := tb_of (i := 168) (by decide +kernel) rfl
theorem fw_7_36 : Cond.fieldLink RX7 36 (fT 7 0).1 (fT 7 0).2.1 (fT 7 0).2.2.1 ∈ TB := tb_of (i := 143) (by decide +kernel) rfl
theorem oi_8 : Cond.methodLink RX8 3 objectInit ∈ TB := tb_of (i := 256) (by decide +kernel) rfl
theorem fw_8_9 : Cond.fieldLink RX8 9 (fT 8 0).1 (fT 8 0).2.1 (fT 8 0).2.2.1 ∈ TB := tb_of (i := 257) (by decide +kernel) rfl
theorem fw_8_15 : Cond.fieldLink RX8 15 (fT 8 1).1 (fT 8 1).2.1 (fT 8 1).2.2.1 ∈ TB := tb_of (i := 258) (by decide +kernel) rfl
theorem oi_9 : Cond.methodLink RX9 3 objectInit ∈ TB := tb_of (i := 29) (by decide +kernel) rfl
theorem fw_9_9 : Cond.fieldLink RX9 9 (fT 9 0).1 (fT 9 0).2.1 (fT 9 0).2.2.1 ∈ TB := tb_of (i := 30) (by decide +kernel) rfl
theorem cl_L_7 : Cond.classLink RL 7 RX10 ∈ TB := tb_of (i := 16) (by decide +kernel) rfl
theorem yn_L_7 : YN RL 7 10 := ⟨RX10, rfl, cl_L_7, tb_of (i := 17) (by decide +kernel) rfl, tb_of (i := 1) (by decide +kernel) rfl⟩
theorem mi_L_9 : ML RL 9 yX10_init := Or.inl (tb_of (i := 18) (by decide +kernel) rfl)
theorem cl_L_10 : Cond.classLink RL 10 RX11 ∈ TB := tb_of (i := 840) (by decide +kernel) rfl
theorem yn_L_10 : YN RL 10 11 := ⟨RX11, rfl, cl_L_10, tb_of (i := 841) (by decide +kernel) rfl, tb_of (i := 12) (by decide +kernel) rfl⟩
theorem mi_L_12 : ML RL 12 yX11_init := Or.inl (tb_of (i := 842) (by decide +kernel) rfl)
theorem dz_0 : ∀ j, j < nf 0 → defaultValue (tyX0 j) = vp_V (zf 0) j := by decide +kernel
theorem hz_0 : ∀ (ty : Nat → FieldType), (∀ k, k < nf 0 → parseFieldDescriptor (fT 0 k).2.2.1 = some (ty k)) → ∀ j, j < nf 0 → defaultValue (ty j) = vp_V (zf 0) j := fun ty h j hj => by rw [← Option.some.inj ((tyX0_ok j hj).symm.trans (h j hj))]; exact dz_0 j hj
theorem dz_1 : ∀ j, j < nf 1 → defaultValue (tyX1 j) = vp_V (zf 1) j := by decide +kernel
theorem hz_1 : ∀ (ty : Nat → FieldType), (∀ k, k < nf 1 → parseFieldDescriptor (fT 1 k).2.2.1 = some (ty k)) → ∀ j, j < nf 1 → defaultValue (ty j) = vp_V (zf 1) j := fun ty h j hj => by rw [← Option.some.inj ((tyX1_ok j hj).symm.trans (h j hj))]; exact dz_1 j hj
theorem dz_2 : ∀ j, j < nf 2 → defaultValue (tyX2 j) = vp_V (zf 2) j := by decide +kernel
theorem hz_2 : ∀ (ty : Nat → FieldType), (∀ k, k < nf 2 → parseFieldDescriptor (fT 2 k).2.2.1 = some (ty k)) → ∀ j, j < nf 2 → defaultValue (ty j) = vp_V (zf 2) j := fun ty h j hj => by rw [← Option.some.inj ((tyX2_ok j hj).symm.trans (h j hj))]; exact dz_2 j hj
theorem dz_3 : ∀ j, j < nf 3 → defaultValue (tyX3 j) = vp_V (zf 3) j := by decide +kernel
theorem hz_3 : ∀ (ty : Nat → FieldType), (∀ k, k < nf 3 → parseFieldDescriptor (fT 3 k).2.2.1 = some (ty k)) → ∀ j, j < nf 3 → defaultValue (ty j) = vp_V (zf 3) j := fun ty h j hj => by rw [← Option.some.inj ((tyX3_ok j hj).symm.trans (h j hj))]; exact dz_3 j hj
theorem dz_4 : ∀ j, j < nf 4 → defaultValue (tyX4 j) = vp_V (zf 4) j := by decide +kernel
theorem hz_4 : ∀ (ty : Nat → FieldType), (∀ k, k < nf 4 → parseFieldDescriptor (fT 4 k).2.2.1 = some (ty k)) → ∀ j, j < nf 4 → defaultValue (ty j) = vp_V (zf 4) j := fun ty h j hj => by rw [← Option.some.inj ((tyX4_ok j hj).symm.trans (h j hj))]; exact dz_4 j hj
theorem dz_5 : ∀ j, j < nf 5 → defaultValue (tyX5 j) = vp_V (zf 5) j := by decide +kernel
theorem hz_5 : ∀ (ty : Nat → FieldType), (∀ k, k < nf 5 → parseFieldDescriptor (fT 5 k).2.2.1 = some (ty k)) → ∀ j, j < nf 5 → defaultValue (ty j) = vp_V (zf 5) j := fun ty h j hj => by rw [← Option.some.inj ((tyX5_ok j hj).symm.trans (h j hj))]; exact dz_5 j hj
theorem dz_6 : ∀ j, j < nf 6 → defaultValue (tyX6 j) = vp_V (zf 6) j := by decide +kernel
theorem hz_6 : ∀ (ty : Nat → FieldType), (∀ k, k < nf 6 → parseFieldDescriptor (fT 6 k).2.2.1 = some (ty k)) → ∀ j, j < nf 6 → defaultValue (ty j) = vp_V (zf 6) j := fun ty h j hj => by rw [← Option.some.inj ((tyX6_ok j hj).symm.trans (h j hj))]; exact dz_6 j hj
theorem dz_7 : ∀ j, j < nf 7 → defaultValue (tyX7 j) = vp_V (zf 7) j := by decide +kernel
theorem hz_7 : ∀ (ty : Nat → FieldType), (∀ k, k < nf 7 → parseFieldDescriptor (fT 7 k).2.2.1 = some (ty k)) → ∀ j, j < nf 7 → defaultValue (ty j) = vp_V (zf 7) j := fun ty h j hj => by rw [← Option.some.inj ((tyX7_ok j hj).symm.trans (h j hj))]; exact dz_7 j hj
theorem dz_8 : ∀ j, j < nf 8 → defaultValue (tyX8 j) = vp_V (zf 8) j := by decide +kernel
theorem hz_8 : ∀ (ty : Nat → FieldType), (∀ k, k < nf 8 → parseFieldDescriptor (fT 8 k).2.2.1 = some (ty k)) → ∀ j, j < nf 8 → defaultValue (ty j) = vp_V (zf 8) j := fun ty h j hj => by rw [← Option.some.inj ((tyX8_ok j hj).symm.trans (h j hj))]; exact dz_8 j hj
theorem dz_9 : ∀ j, j < nf 9 → defaultValue (tyX9 j) = vp_V (zf 9) j := by decide +kernel
theorem hz_9 : ∀ (ty : Nat → FieldType), (∀ k, k < nf 9 → parseFieldDescriptor (fT 9 k).2.2.1 = some (ty k)) → ∀ j, j < nf 9 → defaultValue (ty j) = vp_V (zf 9) j := fun ty h j hj => by rw [← Option.some.inj ((tyX9_ok j hj).symm.trans (h j hj))]; exact dz_9 j hj
theorem dz_10 : ∀ j, j < nf 10 → defaultValue (tyX10 j) = vp_V (zf 10) j := by decide +kernel
theorem hz_10 : ∀ (ty : Nat → FieldType), (∀ k, k < nf 10 → parseFieldDescriptor (fT 10 k).2.2.1 = some (ty k)) → ∀ j, j < nf 10 → defaultValue (ty j) = vp_V (zf 10) j := fun ty h j hj => by rw [← Option.some.inj ((tyX10_ok j hj).symm.trans (h j hj))]; exact dz_10 j hj
theorem dz_11 : ∀ j, j < nf 11 → defaultValue (tyX11 j) = vp_V (zf 11) j := by decide +kernel
theorem hz_11 : ∀ (ty : Nat → FieldType), (∀ k, k < nf 11 → parseFieldDescriptor (fT 11 k).2.2.1 = some (ty k)) → ∀ j, j < nf 11 → defaultValue (ty j) = vp_V (zf 11) j := fun ty h j hj => by rw [← Option.some.inj ((tyX11_ok j hj).symm.trans (h j hj))]; exact dz_11 j hj
