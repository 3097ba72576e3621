theorem gv_21 {args : Array Value} {s : State} (h : (Jvm.Cond.and given_1 narrow_1).before args s = true) : ((Jvm.Cond.exactly (Jvm.Term.string "ToastCourt$Tape" (65 : Nat)) "java/lang/String") : Jvm.Cond).before args s = true := flat_of_before _ h _ (List.mem_of_getElem? (i := 21) rfl)
theorem gv_34 {args : Array Value} {s : State} (h : (Jvm.Cond.and given_1 narrow_1).before args s = true) : ((Jvm.Cond.exactly (Jvm.Term.string "ToastCourt$Tape" (67 : Nat)) "java/lang/String") : Jvm.Cond).before args s = true := flat_of_before _ h _ (List.mem_of_getElem? (i := 34) rfl)
theorem gv_42 {args : Array Value} {s : State} (h : (Jvm.Cond.and given_1 narrow_1).before args s = true) : ((Jvm.Cond.exactly (Jvm.Term.string "ToastCourt$Tape" (71 : Nat)) "java/lang/String") : Jvm.Cond).before args s = true := flat_of_before _ h _ (List.mem_of_getElem? (i := 42) rfl)
theorem gv_52 {args : Array Value} {s : State} (h : (Jvm.Cond.and given_1 narrow_1).before args s = true) : ((Jvm.Cond.exactly (Jvm.Term.string "ToastCourt$Tape" (73 : Nat)) "java/lang/String") : Jvm.Cond).before args s = true := flat_of_before _ h _ (List.mem_of_getElem? (i := 52) rfl)
theorem gv_62 {args : Array Value} {s : State} (h : (Jvm.Cond.and given_1 narrow_1).before args s = true) : ((Jvm.Cond.exactly (Jvm.Term.string "ToastCourt$Tape" (75 : Nat)) "java/lang/String") : Jvm.Cond).before args s = true := flat_of_before _ h _ (List.mem_of_getElem? (i := 62) rfl)
theorem gv_72 {args : Array Value} {s : State} (h : (Jvm.Cond.and given_1 narrow_1).before args s = true) : ((Jvm.Cond.exactly (Jvm.Term.string "ToastCourt$Tape" (77 : Nat)) "java/lang/String") : Jvm.Cond).before args s = true := flat_of_before _ h _ (List.mem_of_getElem? (i := 72) rfl)
theorem gv_81 {args : Array Value} {s : State} (h : (Jvm.Cond.and given_1 narrow_1).before args s = true) : ((Jvm.Cond.exactly (Jvm.Term.string "ToastCourt$Tape" (79 : Nat)) "java/lang/String") : Jvm.Cond).before args s = true := flat_of_before _ h _ (List.mem_of_getElem? (i := 81) rfl)
theorem gv_118 {args : Array Value} {s : State} (h : (Jvm.Cond.and given_1 narrow_1).before args s = true) : ((Jvm.Cond.exactly (Jvm.Term.string "ToastCourt$Tape" (46 : Nat)) "java/lang/String") : Jvm.Cond).before args s = true := flat_of_before _ h _ (List.mem_of_getElem? (i := 118) rfl)
theorem gv_129 {args : Array Value} {s : State} (h : (Jvm.Cond.and given_1 narrow_1).before args s = true) : ((Jvm.Cond.exactly (Jvm.Term.string "ToastCourt$Tape" (55 : Nat)) "java/lang/String") : Jvm.Cond).before args s = true := flat_of_before _ h _ (List.mem_of_getElem? (i := 129) rfl)
theorem gv_139 {args : Array Value} {s : State} (h : (Jvm.Cond.and given_1 narrow_1).before args s = true) : ((Jvm.Cond.exactly (Jvm.Term.string "ToastCourt$Tape" (60 : Nat)) "java/lang/String") : Jvm.Cond).before args s = true := flat_of_before _ h _ (List.mem_of_getElem? (i := 139) rfl)
theorem gv_89 {args : Array Value} {s : State} (h : (Jvm.Cond.and given_1 narrow_1).before args s = true) : ((Jvm.Cond.exactly (Jvm.Term.string "ToastCourt$Tape" (95 : Nat)) "java/lang/String") : Jvm.Cond).before args s = true := flat_of_before _ h _ (List.mem_of_getElem? (i := 89) rfl)
theorem gv_98 {args : Array Value} {s : State} (h : (Jvm.Cond.and given_1 narrow_1).before args s = true) : ((Jvm.Cond.exactly (Jvm.Term.string "ToastCourt$Tape" (103 : Nat)) "java/lang/String") : Jvm.Cond).before args s = true := flat_of_before _ h _ (List.mem_of_getElem? (i := 98) rfl)
theorem gv_108 {args : Array Value} {s : State} (h : (Jvm.Cond.and given_1 narrow_1).before args s = true) : ((Jvm.Cond.exactly (Jvm.Term.string "ToastCourt$Tape" (107 : Nat)) "java/lang/String") : Jvm.Cond).before args s = true := flat_of_before _ h _ (List.mem_of_getElem? (i := 108) rfl)
theorem gv_22 {args : Array Value} {s : State} (h : (Jvm.Cond.and given_1 narrow_1).before args s = true) : ((Jvm.Cond.eq (Jvm.Term.field (Jvm.Term.string "ToastCourt$Tape" (65 : Nat)) "java/lang/String" "coder" "B") (Jvm.Term.int (0 : Int32))) : Jvm.Cond).before args s = true := flat_of_before _ h _ (List.mem_of_getElem? (i := 22) rfl)
theorem gv_35 {args : Array Value} {s : State} (h : (Jvm.Cond.and given_1 narrow_1).before args s = true) : ((Jvm.Cond.eq (Jvm.Term.field (Jvm.Term.string "ToastCourt$Tape" (67 : Nat)) "java/lang/String" "coder" "B") (Jvm.Term.int (0 : Int32))) : Jvm.Cond).before args s = true := flat_of_before _ h _ (List.mem_of_getElem? (i := 35) rfl)
theorem gv_43 {args : Array Value} {s : State} (h : (Jvm.Cond.and given_1 narrow_1).before args s = true) : ((Jvm.Cond.eq (Jvm.Term.field (Jvm.Term.string "ToastCourt$Tape" (71 : Nat)) "java/lang/String" "coder" "B") (Jvm.Term.int (0 : Int32))) : Jvm.Cond).before args s = true := flat_of_before _ h _ (List.mem_of_getElem? (i := 43) rfl)
theorem gv_53 {args : Array Value} {s : State} (h : (Jvm.Cond.and given_1 narrow_1).before args s = true) : ((Jvm.Cond.eq (Jvm.Term.field (Jvm.Term.string "ToastCourt$Tape" (73 : Nat)) "java/lang/String" "coder" "B") (Jvm.Term.int (0 : Int32))) : Jvm.Cond).before args s = true := flat_of_before _ h _ (List.mem_of_getElem? (i := 53) rfl)
theorem gv_63 {args : Array Value} {s : State} (h : (Jvm.Cond.and given_1 narrow_1).before args s = true) : ((Jvm.Cond.eq (Jvm.Term.field (Jvm.Term.string "ToastCourt$Tape" (75 : Nat)) "java/lang/String" "coder" "B") (Jvm.Term.int (0 : Int32))) : Jvm.Cond).before args s = true := flat_of_before _ h _ (List.mem_of_getElem? (i := 63) rfl)
theorem gv_73 {args : Array Value} {s : State} (h : (Jvm.Cond.and given_1 narrow_1).before args s = true) : ((Jvm.Cond.eq (Jvm.Term.field (Jvm.Term.string "ToastCourt$Tape" (77 : Nat)) "java/lang/String" "coder" "B") (Jvm.Term.int (0 : Int32))) : Jvm.Cond).before args s = true := flat_of_before _ h _ (List.mem_of_getElem? (i := 73) rfl)
theorem gv_82 {args : Array Value} {s : State} (h : (Jvm.Cond.and given_1 narrow_1).before args s = true) : ((Jvm.Cond.eq (Jvm.Term.field (Jvm.Term.string "ToastCourt$Tape" (79 : Nat)) "java/lang/String" "coder" "B") (Jvm.Term.int (0 : Int32))) : Jvm.Cond).before args s = true := flat_of_before _ h _ (List.mem_of_getElem? (i := 82) rfl)
theorem gv_119 {args : Array Value} {s : State} (h : (Jvm.Cond.and given_1 narrow_1).before args s = true) : ((Jvm.Cond.eq (Jvm.Term.field (Jvm.Term.string "ToastCourt$Tape" (46 : Nat)) "java/lang/String" "coder" "B") (Jvm.Term.int (0 : Int32))) : Jvm.Cond).before args s = true := flat_of_before _ h _ (List.mem_of_getElem? (i := 119) rfl)
theorem gv_130 {args : Array Value} {s : State} (h : (Jvm.Cond.and given_1 narrow_1).before args s = true) : ((Jvm.Cond.eq (Jvm.Term.field (Jvm.Term.string "ToastCourt$Tape" (55 : Nat)) "java/lang/String" "coder" "B") (Jvm.Term.int (0 : Int32))) : Jvm.Cond).before args s = true := flat_of_before _ h _ (List.mem_of_getElem? (i := 130) rfl)
theorem gv_140 {args : Array Value} {s : State} (h : (Jvm.Cond.and given_1 narrow_1).before args s = true) : ((Jvm.Cond.eq (Jvm.Term.field (Jvm.Term.string "ToastCourt$Tape" (60 : Nat)) "java/lang/String" "coder" "B") (Jvm.Term.int (0 : Int32))) : Jvm.Cond).before args s = true := flat_of_before _ h _ (List.mem_of_getElem? (i := 140) rfl)
theorem gv_90 {args : Array Value} {s : State} (h : (Jvm.Cond.and given_1 narrow_1).before args s = true) : ((Jvm.Cond.eq (Jvm.Term.field (Jvm.Term.string "ToastCourt$Tape" (95 : Nat)) "java/lang/String" "coder" "B") (Jvm.Term.int (0 : Int32))) : Jvm.Cond).before args s = true := flat_of_before _ h _ (List.mem_of_getElem? (i := 90) rfl)
theorem gv_99 {args : Array Value} {s : State} (h : (Jvm.Cond.and given_1 narrow_1).before args s = true) : ((Jvm.Cond.eq (Jvm.Term.field (Jvm.Term.string "ToastCourt$Tape" (103 : Nat)) "java/lang/String" "coder" "B") (Jvm.Term.int (0 : Int32))) : Jvm.Cond).before args s = true := flat_of_before _ h _ (List.mem_of_getElem? (i := 99) rfl)
theorem gv_109 {args : Array Value} {s : State} (h : (Jvm.Cond.and given_1 narrow_1).before args s = true) : ((Jvm.Cond.eq (Jvm.Term.field (Jvm.Term.string "ToastCourt$Tape" (107 : Nat)) "java/lang/String" "coder" "B") (Jvm.Term.int (0 : Int32))) : Jvm.Cond).before args s = true := flat_of_before _ h _ (List.mem_of_getElem? (i := 109) rfl)
theorem gv_23 {args : Array Value} {s : State} (h : (Jvm.Cond.and given_1 narrow_1).before args s = true) : ((Jvm.Cond.arrayOf (Jvm.Term.field (Jvm.Term.string "ToastCourt$Tape" (65 : Nat)) "java/lang/String" "value" "[B") Jvm.ClassFile.FieldType.byte) : Jvm.Cond).before args s = true := flat_of_before _ h _ (List.mem_of_getElem? (i := 23) rfl)
theorem gv_36 {args : Array Value} {s : State} (h : (Jvm.Cond.and given_1 narrow_1).before args s = true) : ((Jvm.Cond.arrayOf (Jvm.Term.field (Jvm.Term.string "ToastCourt$Tape" (67 : Nat)) "java/lang/String" "value" "[B") Jvm.ClassFile.FieldType.byte) : Jvm.Cond).before args s = true := flat_of_before _ h _ (List.mem_of_getElem? (i := 36) rfl)
theorem gv_44 {args : Array Value} {s : State} (h : (Jvm.Cond.and given_1 narrow_1).before args s = true) : ((Jvm.Cond.arrayOf (Jvm.Term.field (Jvm.Term.string "ToastCourt$Tape" (71 : Nat)) "java/lang/String" "value" "[B") Jvm.ClassFile.FieldType.byte) : Jvm.Cond).before args s = true := flat_of_before _ h _ (List.mem_of_getElem? (i := 44) rfl)
theorem gv_54 {args : Array Value} {s : State} (h : (Jvm.Cond.and given_1 narrow_1).before args s = true) : ((Jvm.Cond.arrayOf (Jvm.Term.field (Jvm.Term.string "ToastCourt$Tape" (73 : Nat)) "java/lang/String" "value" "[B") Jvm.ClassFile.FieldType.byte) : Jvm.Cond).before args s = true := flat_of_before _ h _ (List.mem_of_getElem? (i := 54) rfl)
theorem gv_64 {args : Array Value} {s : State} (h : (Jvm.Cond.and given_1 narrow_1).before args s = true) : ((Jvm.Cond.arrayOf (Jvm.Term.field (Jvm.Term.string "ToastCourt$Tape" (75 : Nat)) "java/lang/String" "value" "[B") Jvm.ClassFile.FieldType.byte) : Jvm.Cond).before args s = true := flat_of_before _ h _ (List.mem_of_getElem? (i := 64) rfl)
theorem gv_74 {args : Array Value} {s : State} (h : (Jvm.Cond.and given_1 narrow_1).before args s = true) : ((Jvm.Cond.arrayOf (Jvm.Term.field (Jvm.Term.string "ToastCourt$Tape" (77 : Nat)) "java/lang/String" "value" "[B") Jvm.ClassFile.FieldType.byte) : Jvm.Cond).before args s = true := flat_of_before _ h _ (List.mem_of_getElem? (i := 74) rfl)
theorem gv_83 {args : Array Value} {s : State} (h : (Jvm.Cond.and given_1 narrow_1).before args s = true) : ((Jvm.Cond.arrayOf (Jvm.Term.field (Jvm.Term.string "ToastCourt$Tape" (79 : Nat)) "java/lang/String" "value" "[B") Jvm.ClassFile.FieldType.byte) : Jvm.Cond).before args s = true := flat_of_before _ h _ (List.mem_of_getElem? (i := 83) rfl)
theorem gv_120 {args : Array Value} {s : State} (h : (Jvm.Cond.and given_1 narrow_1).before args s = true) : ((Jvm.Cond.arrayOf (Jvm.Term.field (Jvm.Term.string "ToastCourt$Tape" (46 : Nat)) "java/lang/String" "value" "[B") Jvm.ClassFile.FieldType.byte) : Jvm.Cond).before args s = true := flat_of_before _ h _ (List.mem_of_getElem? (i := 120) rfl)
theorem gv_131 {args : Array Value} {s : State} (h : (Jvm.Cond.and given_1 narrow_1).before args s = true) : ((Jvm.Cond.arrayOf (Jvm.Term.field (Jvm.Term.string "ToastCourt$Tape" (55 : Nat)) "java/lang/String" "value" "[B") Jvm.ClassFile.FieldType.byte) : Jvm.Cond).before args s = true := flat_of_before _ h _ (List.mem_of_getElem? (i := 131) rfl)
theorem gv_141 {args : Array Value} {s : State} (h : (Jvm.Cond.and given_1 narrow_1).before args s = true) : ((Jvm.Cond.arrayOf (Jvm.Term.field (Jvm.Term.string "ToastCourt$Tape" (60 : Nat)) "java/lang/String" "value" "[B") Jvm.ClassFile.FieldType.byte) : Jvm.Cond).before args s = true := flat_of_before _ h _ (List.mem_of_getElem? (i := 141) rfl)
theorem gv_91 {args : Array Value} {s : State} (h : (Jvm.Cond.and given_1 narrow_1).before args s = true) : ((Jvm.Cond.arrayOf (Jvm.Term.field (Jvm.Term.string "ToastCourt$Tape" (95 : Nat)) "java/lang/String" "value" "[B") Jvm.ClassFile.FieldType.byte) : Jvm.Cond).before args s = true := flat_of_before _ h _ (List.mem_of_getElem? (i := 91) rfl)
theorem gv_100 {args : Array Value} {s : State} (h : (Jvm.Cond.and given_1 narrow_1).before args s = true) : ((Jvm.Cond.arrayOf (Jvm.Term.field (Jvm.Term.string "ToastCourt$Tape" (103 : Nat)) "java/lang/String" "value" "[B") Jvm.ClassFile.FieldType.byte) : Jvm.Cond).before args s = true := flat_of_before _ h _ (List.mem_of_getElem? (i := 100) rfl)
theorem gv_110 {args : Array Value} {s : State} (h : (Jvm.Cond.and given_1 narrow_1).before args s = true) : ((Jvm.Cond.arrayOf (Jvm.Term.field (Jvm.Term.string "ToastCourt$Tape" (107 : Nat)) "java/lang/String" "value" "[B") Jvm.ClassFile.FieldType.byte) : Jvm.Cond).before args s = true := flat_of_before _ h _ (List.mem_of_getElem? (i := 110) rfl)
theorem gv_24 {args : Array Value} {s : State} (h : (Jvm.Cond.and given_1 narrow_1).before args s = true) : ((Jvm.Cond.eq (Jvm.Term.length (Jvm.Term.field (Jvm.Term.string "ToastCourt$Tape" (65 : Nat)) "java/lang/String" "value" "[B")) (Jvm.Term.int (9 : Int32))) : Jvm.Cond).before args s = true := flat_of_before _ h _ (List.mem_of_getElem? (i := 24) rfl)
theorem gv_37 {args : Array Value} {s : State} (h : (Jvm.Cond.and given_1 narrow_1).before args s = true) : ((Jvm.Cond.eq (Jvm.Term.length (Jvm.Term.field (Jvm.Term.string "ToastCourt$Tape" (67 : Nat)) "java/lang/String" "value" "[B")) (Jvm.Term.int (4 : Int32))) : Jvm.Cond).before args s = true := flat_of_before _ h _ (List.mem_of_getElem? (i := 37) rfl)
theorem gv_45 {args : Array Value} {s : State} (h : (Jvm.Cond.and given_1 narrow_1).before args s = true) : ((Jvm.Cond.eq (Jvm.Term.length (Jvm.Term.field (Jvm.Term.string "ToastCourt$Tape" (71 : Nat)) "java/lang/String" "value" "[B")) (Jvm.Term.int (6 : Int32))) : Jvm.Cond).before args s = true := flat_of_before _ h _ (List.mem_of_getElem? (i := 45) rfl)
theorem gv_55 {args : Array Value} {s : State} (h : (Jvm.Cond.and given_1 narrow_1).before args s = true) : ((Jvm.Cond.eq (Jvm.Term.length (Jvm.Term.field (Jvm.Term.string "ToastCourt$Tape" (73 : Nat)) "java/lang/String" "value" "[B")) (Jvm.Term.int (6 : Int32))) : Jvm.Cond).before args s = true := flat_of_before _ h _ (List.mem_of_getElem? (i := 55) rfl)
theorem gv_65 {args : Array Value} {s : State} (h : (Jvm.Cond.and given_1 narrow_1).before args s = true) : ((Jvm.Cond.eq (Jvm.Term.length (Jvm.Term.field (Jvm.Term.string "ToastCourt$Tape" (75 : Nat)) "java/lang/String" "value" "[B")) (Jvm.Term.int (6 : Int32))) : Jvm.Cond).before args s = true := flat_of_before _ h _ (List.mem_of_getElem? (i := 65) rfl)
theorem gv_75 {args : Array Value} {s : State} (h : (Jvm.Cond.and given_1 narrow_1).before args s = true) : ((Jvm.Cond.eq (Jvm.Term.length (Jvm.Term.field (Jvm.Term.string "ToastCourt$Tape" (77 : Nat)) "java/lang/String" "value" "[B")) (Jvm.Term.int (5 : Int32))) : Jvm.Cond).before args s = true := flat_of_before _ h _ (List.mem_of_getElem? (i := 75) rfl)
theorem gv_84 {args : Array Value} {s : State} (h : (Jvm.Cond.and given_1 narrow_1).before args s = true) : ((Jvm.Cond.eq (Jvm.Term.length (Jvm.Term.field (Jvm.Term.string "ToastCourt$Tape" (79 : Nat)) "java/lang/String" "value" "[B")) (Jvm.Term.int (4 : Int32))) : Jvm.Cond).before args s = true := flat_of_before _ h _ (List.mem_of_getElem? (i := 84) rfl)
theorem gv_121 {args : Array Value} {s : State} (h : (Jvm.Cond.and given_1 narrow_1).before args s = true) : ((Jvm.Cond.eq (Jvm.Term.length (Jvm.Term.field (Jvm.Term.string "ToastCourt$Tape" (46 : Nat)) "java/lang/String" "value" "[B")) (Jvm.Term.int (7 : Int32))) : Jvm.Cond).before args s = true := flat_of_before _ h _ (List.mem_of_getElem? (i := 121) rfl)
theorem gv_132 {args : Array Value} {s : State} (h : (Jvm.Cond.and given_1 narrow_1).before args s = true) : ((Jvm.Cond.eq (Jvm.Term.length (Jvm.Term.field (Jvm.Term.string "ToastCourt$Tape" (55 : Nat)) "java/lang/String" "value" "[B")) (Jvm.Term.int (6 : Int32))) : Jvm.Cond).before args s = true := flat_of_before _ h _ (List.mem_of_getElem? (i := 132) rfl)
theorem gv_142 {args : Array Value} {s : State} (h : (Jvm.Cond.and given_1 narrow_1).before args s = true) : ((Jvm.Cond.eq (Jvm.Term.length (Jvm.Term.field (Jvm.Term.string "ToastCourt$Tape" (60 : Nat)) "java/lang/String" "value" "[B")) (Jvm.Term.int (6 : Int32))) : Jvm.Cond).before args s = true := flat_of_before _ h _ (List.mem_of_getElem? (i := 142) rfl)
theorem gv_92 {args : Array Value} {s : State} (h : (Jvm.Cond.and given_1 narrow_1).before args s = true) : ((Jvm.Cond.eq (Jvm.Term.length (Jvm.Term.field (Jvm.Term.string "ToastCourt$Tape" (95 : Nat)) "java/lang/String" "value" "[B")) (Jvm.Term.int (5 : Int32))) : Jvm.Cond).before args s = true := flat_of_before _ h _ (List.mem_of_getElem? (i := 92) rfl)
theorem gv_101 {args : Array Value} {s : State} (h : (Jvm.Cond.and given_1 narrow_1).before args s = true) : ((Jvm.Cond.eq (Jvm.Term.length (Jvm.Term.field (Jvm.Term.string "ToastCourt$Tape" (103 : Nat)) "java/lang/String" "value" "[B")) (Jvm.Term.int (6 : Int32))) : Jvm.Cond).before args s = true := flat_of_before _ h _ (List.mem_of_getElem? (i := 101) rfl)
theorem gv_111 {args : Array Value} {s : State} (h : (Jvm.Cond.and given_1 narrow_1).before args s = true) : ((Jvm.Cond.eq (Jvm.Term.length (Jvm.Term.field (Jvm.Term.string "ToastCourt$Tape" (107 : Nat)) "java/lang/String" "value" "[B")) (Jvm.Term.int (6 : Int32))) : Jvm.Cond).before args s = true := flat_of_before _ h _ (List.mem_of_getElem? (i := 111) rfl)
theorem gv_25 {args : Array Value} {s : State} (h : (Jvm.Cond.and given_1 narrow_1).before args s = true) : ((Jvm.Cond.eq (Jvm.Term.elem (Jvm.Term.field (Jvm.Term.string "ToastCourt$Tape" (65 : Nat)) "java/lang/String" "value" "[B") (Jvm.Term.int (0 : Int32))) (Jvm.Term.int (100 : Int32))) : Jvm.Cond).before args s = true := flat_of_before _ h _ (List.mem_of_getElem? (i := 25) rfl)
theorem gv_26 {args : Array Value} {s : State} (h : (Jvm.Cond.and given_1 narrow_1).before args s = true) : ((Jvm.Cond.eq (Jvm.Term.elem (Jvm.Term.field (Jvm.Term.string "ToastCourt$Tape" (65 : Nat)) "java/lang/String" "value" "[B") (Jvm.Term.int (1 : Int32))) (Jvm.Term.int (105 : Int32))) : Jvm.Cond).before args s = true := flat_of_before _ h _ (List.mem_of_getElem? (i := 26) rfl)
theorem gv_27 {args : Array Value} {s : State} (h : (Jvm.Cond.and given_1 narrow_1).before args s = true) : ((Jvm.Cond.eq (Jvm.Term.elem (Jvm.Term.field (Jvm.Term.string "ToastCourt$Tape" (65 : Nat)) "java/lang/String" "value" "[B") (Jvm.Term.int (2 : Int32))) (Jvm.Term.int (115 : Int32))) : Jvm.Cond).before args s = true := flat_of_before _ h _ (List.mem_of_getElem? (i := 27) rfl)
theorem gv_28 {args : Array Value} {s : State} (h : (Jvm.Cond.and given_1 narrow_1).before args s = true) : ((Jvm.Cond.eq (Jvm.Term.elem (Jvm.Term.field (Jvm.Term.string "ToastCourt$Tape" (65 : Nat)) "java/lang/String" "value" "[B") (Jvm.Term.int (3 : Int32))) (Jvm.Term.int (112 : Int32))) : Jvm.Cond).before args s = true := flat_of_before _ h _ (List.mem_of_getElem? (i := 28) rfl)
theorem gv_29 {args : Array Value} {s : State} (h : (Jvm.Cond.and given_1 narrow_1).before args s = true) : ((Jvm.Cond.eq (Jvm.Term.elem (Jvm.Term.field (Jvm.Term.string "ToastCourt$Tape" (65 : Nat)) "java/lang/String" "value" "[B") (Jvm.Term.int (4 : Int32))) (Jvm.Term.int (117 : Int32))) : Jvm.Cond).before args s = true := flat_of_before _ h _ (List.mem_of_getElem? (i := 29) rfl)
theorem gv_30 {args : Array Value} {s : State} (h : (Jvm.Cond.and given_1 narrow_1).before args s = true) : ((Jvm.Cond.eq (Jvm.Term.elem (Jvm.Term.field (Jvm.Term.string "ToastCourt$Tape" (65 : Nat)) "java/lang/String" "value" "[B") (Jvm.Term.int (5 : Int32))) (Jvm.Term.int (116 : Int32))) : Jvm.Cond).before args s = true := flat_of_before _ h _ (List.mem_of_getElem? (i := 30) rfl)
theorem gv_31 {args : Array Value} {s : State} (h : (Jvm.Cond.and given_1 narrow_1).before args s = true) : ((Jvm.Cond.eq (Jvm.Term.elem (Jvm.Term.field (Jvm.Term.string "ToastCourt$Tape" (65 : Nat)) "java/lang/String" "value" "[B") (Jvm.Term.int (6 : Int32))) (Jvm.Term.int (97 : Int32))) : Jvm.Cond).before args s = true := flat_of_before _ h _ (List.mem_of_getElem? (i := 31) rfl)
theorem gv_32 {args : Array Value} {s : State} (h : (Jvm.Cond.and given_1 narrow_1).before args s = true) : ((Jvm.Cond.eq (Jvm.Term.elem (Jvm.Term.field (Jvm.Term.string "ToastCourt$Tape" (65 : Nat)) "java/lang/String" "value" "[B") (Jvm.Term.int (7 : Int32))) (Jvm.Term.int (110 : Int32))) : Jvm.Cond).before args s = true := flat_of_before _ h _ (List.mem_of_getElem? (i := 32) rfl)
theorem gv_33 {args : Array Value} {s : State} (h : (Jvm.Cond.and given_1 narrow_1).before args s = true) : ((Jvm.Cond.eq (Jvm.Term.elem (Jvm.Term.field (Jvm.Term.string "ToastCourt$Tape" (65 : Nat)) "java/lang/String" "value" "[B") (Jvm.Term.int (8 : Int32))) (Jvm.Term.int (116 : Int32))) : Jvm.Cond).before args s = true := flat_of_before _ h _ (List.mem_of_getElem? (i := 33) rfl)
theorem gv_38 {args : Array Value} {s : State} (h : (Jvm.Cond.and given_1 narrow_1).before args s = true) : ((Jvm.Cond.eq (Jvm.Term.elem (Jvm.Term.field (Jvm.Term.string "ToastCourt$Tape" (67 : Nat)) "java/lang/String" "value" "[B") (Jvm.Term.int (0 : Int32))) (Jvm.Term.int (97 : Int32))) : Jvm.Cond).before args s = true := flat_of_before _ h _ (List.mem_of_getElem? (i := 38) rfl)
theorem gv_39 {args : Array Value} {s : State} (h : (Jvm.Cond.and given_1 narrow_1).before args s = true) : ((Jvm.Cond.eq (Jvm.Term.elem (Jvm.Term.field (Jvm.Term.string "ToastCourt$Tape" (67 : Nat)) "java/lang/String" "value" "[B") (Jvm.Term.int (1 : Int32))) (Jvm.Term.int (117 : Int32))) : Jvm.Cond).before args s = true := flat_of_before _ h _ (List.mem_of_getElem? (i := 39) rfl)
theorem gv_40 {args : Array Value} {s : State} (h : (Jvm.Cond.and given_1 narrow_1).before args s = true) : ((Jvm.Cond.eq (Jvm.Term.elem (Jvm.Term.field (Jvm.Term.string "ToastCourt$Tape" (67 : Nat)) "java/lang/String" "value" "[B") (Jvm.Term.int (2 : Int32))) (Jvm.Term.int (110 : Int32))) : Jvm.Cond).before args s = true := flat_of_before _ h _ (List.mem_of_getElem? (i := 40) rfl)
theorem gv_41 {args : Array Value} {s : State} (h : (Jvm.Cond.and given_1 narrow_1).before args s = true) : ((Jvm.Cond.eq (Jvm.Term.elem (Jvm.Term.field (Jvm.Term.string "ToastCourt$Tape" (67 : Nat)) "java/lang/String" "value" "[B") (Jvm.Term.int (3 : Int32))) (Jvm.Term.int (116 : Int32))) : Jvm.Cond).before args s = true := flat_of_before _ h _ (List.mem_of_getElem? (i := 41) rfl)
theorem gv_46 {args : Array Value} {s : State} (h : (Jvm.Cond.and given_1 narrow_1).before args s = true) : ((Jvm.Cond.eq (Jvm.Term.elem (Jvm.Term.field (Jvm.Term.string "ToastCourt$Tape" (71 : Nat)) "java/lang/String" "value" "[B") (Jvm.Term.int (0 : Int32))) (Jvm.Term.int (108 : Int32))) : Jvm.Cond).before args s = true := flat_of_before _ h _ (List.mem_of_getElem? (i := 46) rfl)
theorem gv_47 {args : Array Value} {s : State} (h : (Jvm.Cond.and given_1 narrow_1).before args s = true) : ((Jvm.Cond.eq (Jvm.Term.elem (Jvm.Term.field (Jvm.Term.string "ToastCourt$Tape" (71 : Nat)) "java/lang/String" "value" "[B") (Jvm.Term.int (1 : Int32))) (Jvm.Term.int (97 : Int32))) : Jvm.Cond).before args s = true := flat_of_before _ h _ (List.mem_of_getElem? (i := 47) rfl)
theorem gv_48 {args : Array Value} {s : State} (h : (Jvm.Cond.and given_1 narrow_1).before args s = true) : ((Jvm.Cond.eq (Jvm.Term.elem (Jvm.Term.field (Jvm.Term.string "ToastCourt$Tape" (71 : Nat)) "java/lang/String" "value" "[B") (Jvm.Term.int (2 : Int32))) (Jvm.Term.int (119 : Int32))) : Jvm.Cond).before args s = true := flat_of_before _ h _ (List.mem_of_getElem? (i := 48) rfl)
theorem gv_49 {args : Array Value} {s : State} (h : (Jvm.Cond.and given_1 narrow_1).before args s = true) : ((Jvm.Cond.eq (Jvm.Term.elem (Jvm.Term.field (Jvm.Term.string "ToastCourt$Tape" (71 : Nat)) "java/lang/String" "value" "[B") (Jvm.Term.int (3 : Int32))) (Jvm.Term.int (121 : Int32))) : Jvm.Cond).before args s = true := flat_of_before _ h _ (List.mem_of_getElem? (i := 49) rfl)
theorem gv_50 {args : Array Value} {s : State} (h : (Jvm.Cond.and given_1 narrow_1).before args s = true) : ((Jvm.Cond.eq (Jvm.Term.elem (Jvm.Term.field (Jvm.Term.string "ToastCourt$Tape" (71 : Nat)) "java/lang/String" "value" "[B") (Jvm.Term.int (4 : Int32))) (Jvm.Term.int (101 : Int32))) : Jvm.Cond).before args s = true := flat_of_before _ h _ (List.mem_of_getElem? (i := 50) rfl)
theorem gv_51 {args : Array Value} {s : State} (h : (Jvm.Cond.and given_1 narrow_1).before args s = true) : ((Jvm.Cond.eq (Jvm.Term.elem (Jvm.Term.field (Jvm.Term.string "ToastCourt$Tape" (71 : Nat)) "java/lang/String" "value" "[B") (Jvm.Term.int (5 : Int32))) (Jvm.Term.int (114 : Int32))) : Jvm.Cond).before args s = true := flat_of_before _ h _ (List.mem_of_getElem? (i := 51) rfl)
theorem gv_56 {args : Array Value} {s : State} (h : (Jvm.Cond.and given_1 narrow_1).before args s = true) : ((Jvm.Cond.eq (Jvm.Term.elem (Jvm.Term.field (Jvm.Term.string "ToastCourt$Tape" (73 : Nat)) "java/lang/String" "value" "[B") (Jvm.Term.int (0 : Int32))) (Jvm.Term.int (112 : Int32))) : Jvm.Cond).before args s = true := flat_of_before _ h _ (List.mem_of_getElem? (i := 56) rfl)
theorem gv_57 {args : Array Value} {s : State} (h : (Jvm.Cond.and given_1 narrow_1).before args s = true) : ((Jvm.Cond.eq (Jvm.Term.elem (Jvm.Term.field (Jvm.Term.string "ToastCourt$Tape" (73 : Nat)) "java/lang/String" "value" "[B") (Jvm.Term.int (1 : Int32))) (Jvm.Term.int (97 : Int32))) : Jvm.Cond).before args s = true := flat_of_before _ h _ (List.mem_of_getElem? (i := 57) rfl)
theorem gv_58 {args : Array Value} {s : State} (h : (Jvm.Cond.and given_1 narrow_1).before args s = true) : ((Jvm.Cond.eq (Jvm.Term.elem (Jvm.Term.field (Jvm.Term.string "ToastCourt$Tape" (73 : Nat)) "java/lang/String" "value" "[B") (Jvm.Term.int (2 : Int32))) (Jvm.Term.int (114 : Int32))) : Jvm.Cond).before args s = true := flat_of_before _ h _ (List.mem_of_getElem? (i := 58) rfl)
theorem gv_59 {args : Array Value} {s : State} (h : (Jvm.Cond.and given_1 narrow_1).before args s = true) : ((Jvm.Cond.eq (Jvm.Term.elem (Jvm.Term.field (Jvm.Term.string "ToastCourt$Tape" (73 : Nat)) "java/lang/String" "value" "[B") (Jvm.Term.int (3 : Int32))) (Jvm.Term.int (115 : Int32))) : Jvm.Cond).before args s = true := flat_of_before _ h _ (List.mem_of_getElem? (i := 59) rfl)
theorem gv_60 {args : Array Value} {s : State} (h : (Jvm.Cond.and given_1 narrow_1).before args s = true) : ((Jvm.Cond.eq (Jvm.Term.elem (Jvm.Term.field (Jvm.Term.string "ToastCourt$Tape" (73 : Nat)) "java/lang/String" "value" "[B") (Jvm.Term.int (4 : Int32))) (Jvm.Term.int (111 : Int32))) : Jvm.Cond).before args s = true := flat_of_before _ h _ (List.mem_of_getElem? (i := 60) rfl)
theorem gv_61 {args : Array Value} {s : State} (h : (Jvm.Cond.and given_1 narrow_1).before args s = true) : ((Jvm.Cond.eq (Jvm.Term.elem (Jvm.Term.field (Jvm.Term.string "ToastCourt$Tape" (73 : Nat)) "java/lang/String" "value" "[B") (Jvm.Term.int (5 : Int32))) (Jvm.Term.int (110 : Int32))) : Jvm.Cond).before args s = true := flat_of_before _ h _ (List.mem_of_getElem? (i := 61) rfl)
theorem gv_66 {args : Array Value} {s : State} (h : (Jvm.Cond.and given_1 narrow_1).before args s = true) : ((Jvm.Cond.eq (Jvm.Term.elem (Jvm.Term.field (Jvm.Term.string "ToastCourt$Tape" (75 : Nat)) "java/lang/String" "value" "[B") (Jvm.Term.int (0 : Int32))) (Jvm.Term.int (98 : Int32))) : Jvm.Cond).before args s = true := flat_of_before _ h _ (List.mem_of_getElem? (i := 66) rfl)
theorem gv_67 {args : Array Value} {s : State} (h : (Jvm.Cond.and given_1 narrow_1).before args s = true) : ((Jvm.Cond.eq (Jvm.Term.elem (Jvm.Term.field (Jvm.Term.string "ToastCourt$Tape" (75 : Nat)) "java/lang/String" "value" "[B") (Jvm.Term.int (1 : Int32))) (Jvm.Term.int (105 : Int32))) : Jvm.Cond).before args s = true := flat_of_before _ h _ (List.mem_of_getElem? (i := 67) rfl)
theorem gv_68 {args : Array Value} {s : State} (h : (Jvm.Cond.and given_1 narrow_1).before args s = true) : ((Jvm.Cond.eq (Jvm.Term.elem (Jvm.Term.field (Jvm.Term.string "ToastCourt$Tape" (75 : Nat)) "java/lang/String" "value" "[B") (Jvm.Term.int (2 : Int32))) (Jvm.Term.int (115 : Int32))) : Jvm.Cond).before args s = true := flat_of_before _ h _ (List.mem_of_getElem? (i := 68) rfl)
theorem gv_69 {args : Array Value} {s : State} (h : (Jvm.Cond.and given_1 narrow_1).before args s = true) : ((Jvm.Cond.eq (Jvm.Term.elem (Jvm.Term.field (Jvm.Term.string "ToastCourt$Tape" (75 : Nat)) "java/lang/String" "value" "[B") (Jvm.Term.int (3 : Int32))) (Jvm.Term.int (104 : Int32))) : Jvm.Cond).before args s = true := flat_of_before _ h _ (List.mem_of_getElem? (i := 69) rfl)
theorem gv_70 {args : Array Value} {s : State} (h : (Jvm.Cond.and given_1 narrow_1).before args s = true) : ((Jvm.Cond.eq (Jvm.Term.elem (Jvm.Term.field (Jvm.Term.string "ToastCourt$Tape" (75 : Nat)) "java/lang/String" "value" "[B") (Jvm.Term.int (4 : Int32))) (Jvm.Term.int (111 : Int32))) : Jvm.Cond).before args s = true := flat_of_before _ h _ (List.mem_of_getElem? (i := 70) rfl)
theorem gv_71 {args : Array Value} {s : State} (h : (Jvm.Cond.and given_1 narrow_1).before args s = true) : ((Jvm.Cond.eq (Jvm.Term.elem (Jvm.Term.field (Jvm.Term.string "ToastCourt$Tape" (75 : Nat)) "java/lang/String" "value" "[B") (Jvm.Term.int (5 : Int32))) (Jvm.Term.int (112 : Int32))) : Jvm.Cond).before args s = true := flat_of_before _ h _ (List.mem_of_getElem? (i := 71) rfl)
theorem gv_76 {args : Array Value} {s : State} (h : (Jvm.Cond.and given_1 narrow_1).before args s = true) : ((Jvm.Cond.eq (Jvm.Term.elem (Jvm.Term.field (Jvm.Term.string "ToastCourt$Tape" (77 : Nat)) "java/lang/String" "value" "[B") (Jvm.Term.int (0 : Int32))) (Jvm.Term.int (99 : Int32))) : Jvm.Cond).before args s = true := flat_of_before _ h _ (List.mem_of_getElem? (i := 76) rfl)
theorem gv_77 {args : Array Value} {s : State} (h : (Jvm.Cond.and given_1 narrow_1).before args s = true) : ((Jvm.Cond.eq (Jvm.Term.elem (Jvm.Term.field (Jvm.Term.string "ToastCourt$Tape" (77 : Nat)) "java/lang/String" "value" "[B") (Jvm.Term.int (1 : Int32))) (Jvm.Term.int (104 : Int32))) : Jvm.Cond).before args s = true := flat_of_before _ h _ (List.mem_of_getElem? (i := 77) rfl)
theorem gv_78 {args : Array Value} {s : State} (h : (Jvm.Cond.and given_1 narrow_1).before args s = true) : ((Jvm.Cond.eq (Jvm.Term.elem (Jvm.Term.field (Jvm.Term.string "ToastCourt$Tape" (77 : Nat)) "java/lang/String" "value" "[B") (Jvm.Term.int (2 : Int32))) (Jvm.Term.int (105 : Int32))) : Jvm.Cond).before args s = true := flat_of_before _ h _ (List.mem_of_getElem? (i := 78) rfl)
theorem gv_79 {args : Array Value} {s : State} (h : (Jvm.Cond.and given_1 narrow_1).before args s = true) : ((Jvm.Cond.eq (Jvm.Term.elem (Jvm.Term.field (Jvm.Term.string "ToastCourt$Tape" (77 : Nat)) "java/lang/String" "value" "[B") (Jvm.Term.int (3 : Int32))) (Jvm.Term.int (108 : Int32))) : Jvm.Cond).before args s = true := flat_of_before _ h _ (List.mem_of_getElem? (i := 79) rfl)
theorem gv_80 {args : Array Value} {s : State} (h : (Jvm.Cond.and given_1 narrow_1).before args s = true) : ((Jvm.Cond.eq (Jvm.Term.elem (Jvm.Term.field (Jvm.Term.string "ToastCourt$Tape" (77 : Nat)) "java/lang/String" "value" "[B") (Jvm.Term.int (4 : Int32))) (Jvm.Term.int (100 : Int32))) : Jvm.Cond).before args s = true := flat_of_before _ h _ (List.mem_of_getElem? (i := 80) rfl)
theorem gv_85 {args : Array Value} {s : State} (h : (Jvm.Cond.and given_1 narrow_1).before args s = true) : ((Jvm.Cond.eq (Jvm.Term.elem (Jvm.Term.field (Jvm.Term.string "ToastCourt$Tape" (79 : Nat)) "java/lang/String" "value" "[B") (Jvm.Term.int (0 : Int32))) (Jvm.Term.int (116 : Int32))) : Jvm.Cond).before args s = true := flat_of_before _ h _ (List.mem_of_getElem? (i := 85) rfl)
theorem gv_86 {args : Array Value} {s : State} (h : (Jvm.Cond.and given_1 narrow_1).before args s = true) : ((Jvm.Cond.eq (Jvm.Term.elem (Jvm.Term.field (Jvm.Term.string "ToastCourt$Tape" (79 : Nat)) "java/lang/String" "value" "[B") (Jvm.Term.int (1 : Int32))) (Jvm.Term.int (119 : Int32))) : Jvm.Cond).before args s = true := flat_of_before _ h _ (List.mem_of_getElem? (i := 86) rfl)
theorem gv_87 {args : Array Value} {s : State} (h : (Jvm.Cond.and given_1 narrow_1).before args s = true) : ((Jvm.Cond.eq (Jvm.Term.elem (Jvm.Term.field (Jvm.Term.string "ToastCourt$Tape" (79 : Nat)) "java/lang/String" "value" "[B") (Jvm.Term.int (2 : Int32))) (Jvm.Term.int (105 : Int32))) : Jvm.Cond).before args s = true := flat_of_before _ h _ (List.mem_of_getElem? (i := 87) rfl)
theorem gv_88 {args : Array Value} {s : State} (h : (Jvm.Cond.and given_1 narrow_1).before args s = true) : ((Jvm.Cond.eq (Jvm.Term.elem (Jvm.Term.field (Jvm.Term.string "ToastCourt$Tape" (79 : Nat)) "java/lang/String" "value" "[B") (Jvm.Term.int (3 : Int32))) (Jvm.Term.int (110 : Int32))) : Jvm.Cond).before args s = true := flat_of_before _ h _ (List.mem_of_getElem? (i := 88) rfl)
theorem gv_122 {args : Array Value} {s : State} (h : (Jvm.Cond.and given_1 narrow_1).before args s = true) : ((Jvm.Cond.eq (Jvm.Term.elem (Jvm.Term.field (Jvm.Term.string "ToastCourt$Tape" (46 : Nat)) "java/lang/String" "value" "[B") (Jvm.Term.int (0 : Int32))) (Jvm.Term.int (100 : Int32))) : Jvm.Cond).before args s = true := flat_of_before _ h _ (List.mem_of_getElem? (i := 122) rfl)
theorem gv_123 {args : Array Value} {s : State} (h : (Jvm.Cond.and given_1 narrow_1).before args s = true) : ((Jvm.Cond.eq (Jvm.Term.elem (Jvm.Term.field (Jvm.Term.string "ToastCourt$Tape" (46 : Nat)) "java/lang/String" "value" "[B") (Jvm.Term.int (1 : Int32))) (Jvm.Term.int (105 : Int32))) : Jvm.Cond).before args s = true := flat_of_before _ h _ (List.mem_of_getElem? (i := 123) rfl)
theorem gv_124 {args : Array Value} {s : State} (h : (Jvm.Cond.and given_1 narrow_1).before args s = true) : ((Jvm.Cond.eq (Jvm.Term.elem (Jvm.Term.field (Jvm.Term.string "ToastCourt$Tape" (46 : Nat)) "java/lang/String" "value" "[B") (Jvm.Term.int (2 : Int32))) (Jvm.Term.int (115 : Int32))) : Jvm.Cond).before args s = true := flat_of_before _ h _ (List.mem_of_getElem? (i := 124) rfl)
theorem gv_125 {args : Array Value} {s : State} (h : (Jvm.Cond.and given_1 narrow_1).before args s = true) : ((Jvm.Cond.eq (Jvm.Term.elem (Jvm.Term.field (Jvm.Term.string "ToastCourt$Tape" (46 : Nat)) "java/lang/String" "value" "[B") (Jvm.Term.int (3 : Int32))) (Jvm.Term.int (112 : Int32))) : Jvm.Cond).before args s = true := flat_of_before _ h _ (List.mem_of_getElem? (i := 125) rfl)
theorem gv_126 {args : Array Value} {s : State} (h : (Jvm.Cond.and given_1 narrow_1).before args s = true) : ((Jvm.Cond.eq (Jvm.Term.elem (Jvm.Term.field (Jvm.Term.string "ToastCourt$Tape" (46 : Nat)) "java/lang/String" "value" "[B") (Jvm.Term.int (4 : Int32))) (Jvm.Term.int (117 : Int32))) : Jvm.Cond).before args s = true := flat_of_before _ h _ (List.mem_of_getElem? (i := 126) rfl)
theorem gv_127 {args : Array Value} {s : State} (h : (Jvm.Cond.and given_1 narrow_1).before args s = true) : ((Jvm.Cond.eq (Jvm.Term.elem (Jvm.Term.field (Jvm.Term.string "ToastCourt$Tape" (46 : Nat)) "java/lang/String" "value" "[B") (Jvm.Term.int (5 : Int32))) (Jvm.Term.int (116 : Int32))) : Jvm.Cond).before args s = true := flat_of_before _ h _ (List.mem_of_getElem? (i := 127) rfl)
theorem gv_128 {args : Array Value} {s : State} (h : (Jvm.Cond.and given_1 narrow_1).before args s = true) : ((Jvm.Cond.eq (Jvm.Term.elem (Jvm.Term.field (Jvm.Term.string "ToastCourt$Tape" (46 : Nat)) "java/lang/String" "value" "[B") (Jvm.Term.int (6 : Int32))) (Jvm.Term.int (101 : Int32))) : Jvm.Cond).before args s = true := flat_of_before _ h _ (List.mem_of_getElem? (i := 128) rfl)
theorem gv_133 {args : Array Value} {s : State} (h : (Jvm.Cond.and given_1 narrow_1).before args s = true) : ((Jvm.Cond.eq (Jvm.Term.elem (Jvm.Term.field (Jvm.Term.string "ToastCourt$Tape" (55 : Nat)) "java/lang/String" "value" "[B") (Jvm.Term.int (0 : Int32))) (Jvm.Term.int (104 : Int32))) : Jvm.Cond).before args s = true := flat_of_before _ h _ (List.mem_of_getElem? (i := 133) rfl)
theorem gv_134 {args : Array Value} {s : State} (h : (Jvm.Cond.and given_1 narrow_1).before args s = true) : ((Jvm.Cond.eq (Jvm.Term.elem (Jvm.Term.field (Jvm.Term.string "ToastCourt$Tape" (55 : Nat)) "java/lang/String" "value" "[B") (Jvm.Term.int (1 : Int32))) (Jvm.Term.int (101 : Int32))) : Jvm.Cond).before args s = true := flat_of_before _ h _ (List.mem_of_getElem? (i := 134) rfl)
theorem gv_135 {args : Array Value} {s : State} (h : (Jvm.Cond.and given_1 narrow_1).before args s = true) : ((Jvm.Cond.eq (Jvm.Term.elem (Jvm.Term.field (Jvm.Term.string "ToastCourt$Tape" (55 : Nat)) "java/lang/String" "value" "[B") (Jvm.Term.int (2 : Int32))) (Jvm.Term.int (105 : Int32))) : Jvm.Cond).before args s = true := flat_of_before _ h _ (List.mem_of_getElem? (i := 135) rfl)
theorem gv_136 {args : Array Value} {s : State} (h : (Jvm.Cond.and given_1 narrow_1).before args s = true) : ((Jvm.Cond.eq (Jvm.Term.elem (Jvm.Term.field (Jvm.Term.string "ToastCourt$Tape" (55 : Nat)) "java/lang/String" "value" "[B") (Jvm.Term.int (3 : Int32))) (Jvm.Term.int (103 : Int32))) : Jvm.Cond).before args s = true := flat_of_before _ h _ (List.mem_of_getElem? (i := 136) rfl)
theorem gv_137 {args : Array Value} {s : State} (h : (Jvm.Cond.and given_1 narrow_1).before args s = true) : ((Jvm.Cond.eq (Jvm.Term.elem (Jvm.Term.field (Jvm.Term.string "ToastCourt$Tape" (55 : Nat)) "java/lang/String" "value" "[B") (Jvm.Term.int (4 : Int32))) (Jvm.Term.int (104 : Int32))) : Jvm.Cond).before args s = true := flat_of_before _ h _ (List.mem_of_getElem? (i := 137) rfl)
theorem gv_138 {args : Array Value} {s : State} (h : (Jvm.Cond.and given_1 narrow_1).before args s = true) : ((Jvm.Cond.eq (Jvm.Term.elem (Jvm.Term.field (Jvm.Term.string "ToastCourt$Tape" (55 : Nat)) "java/lang/String" "value" "[B") (Jvm.Term.int (5 : Int32))) (Jvm.Term.int (116 : Int32))) : Jvm.Cond).before args s = true := flat_of_before _ h _ (List.mem_of_getElem? (i := 138) rfl)
theorem gv_143 {args : Array Value} {s : State} (h : (Jvm.Cond.and given_1 narrow_1).before args s = true) : ((Jvm.Cond.eq (Jvm.Term.elem (Jvm.Term.field (Jvm.Term.string "ToastCourt$Tape" (60 : Nat)) "java/lang/String" "value" "[B") (Jvm.Term.int (0 : Int32))) (Jvm.Term.int (115 : Int32))) : Jvm.Cond).before args s = true := flat_of_before _ h _ (List.mem_of_getElem? (i := 143) rfl)
theorem gv_144 {args : Array Value} {s : State} (h : (Jvm.Cond.and given_1 narrow_1).before args s = true) : ((Jvm.Cond.eq (Jvm.Term.elem (Jvm.Term.field (Jvm.Term.string "ToastCourt$Tape" (60 : Nat)) "java/lang/String" "value" "[B") (Jvm.Term.int (1 : Int32))) (Jvm.Term.int (112 : Int32))) : Jvm.Cond).before args s = true := flat_of_before _ h _ (List.mem_of_getElem? (i := 144) rfl)
theorem gv_145 {args : Array Value} {s : State} (h : (Jvm.Cond.and given_1 narrow_1).before args s = true) : ((Jvm.Cond.eq (Jvm.Term.elem (Jvm.Term.field (Jvm.Term.string "ToastCourt$Tape" (60 : Nat)) "java/lang/String" "value" "[B") (Jvm.Term.int (2 : Int32))) (Jvm.Term.int (114 : Int32))) : Jvm.Cond).before args s = true := flat_of_before _ h _ (List.mem_of_getElem? (i := 145) rfl)
theorem gv_146 {args : Array Value} {s : State} (h : (Jvm.Cond.and given_1 narrow_1).before args s = true) : ((Jvm.Cond.eq (Jvm.Term.elem (Jvm.Term.field (Jvm.Term.string "ToastCourt$Tape" (60 : Nat)) "java/lang/String" "value" "[B") (Jvm.Term.int (3 : Int32))) (Jvm.Term.int (101 : Int32))) : Jvm.Cond).before args s = true := flat_of_before _ h _ (List.mem_of_getElem? (i := 146) rfl)
theorem gv_147 {args : Array Value} {s : State} (h : (Jvm.Cond.and given_1 narrow_1).before args s = true) : ((Jvm.Cond.eq (Jvm.Term.elem (Jvm.Term.field (Jvm.Term.string "ToastCourt$Tape" (60 : Nat)) "java/lang/String" "value" "[B") (Jvm.Term.int (4 : Int32))) (Jvm.Term.int (97 : Int32))) : Jvm.Cond).before args s = true := flat_of_before _ h _ (List.mem_of_getElem? (i := 147) rfl)
theorem gv_148 {args : Array Value} {s : State} (h : (Jvm.Cond.and given_1 narrow_1).before args s = true) : ((Jvm.Cond.eq (Jvm.Term.elem (Jvm.Term.field (Jvm.Term.string "ToastCourt$Tape" (60 : Nat)) "java/lang/String" "value" "[B") (Jvm.Term.int (5 : Int32))) (Jvm.Term.int (100 : Int32))) : Jvm.Cond).before args s = true := flat_of_before _ h _ (List.mem_of_getElem? (i := 148) rfl)
theorem gv_93 {args : Array Value} {s : State} (h : (Jvm.Cond.and given_1 narrow_1).before args s = true) : ((Jvm.Cond.eq (Jvm.Term.elem (Jvm.Term.field (Jvm.Term.string "ToastCourt$Tape" (95 : Nat)) "java/lang/String" "value" "[B") (Jvm.Term.int (0 : Int32))) (Jvm.Term.int (99 : Int32))) : Jvm.Cond).before args s = true := flat_of_before _ h _ (List.mem_of_getElem? (i := 93) rfl)
theorem gv_94 {args : Array Value} {s : State} (h : (Jvm.Cond.and given_1 narrow_1).before args s = true) : ((Jvm.Cond.eq (Jvm.Term.elem (Jvm.Term.field (Jvm.Term.string "ToastCourt$Tape" (95 : Nat)) "java/lang/String" "value" "[B") (Jvm.Term.int (1 : Int32))) (Jvm.Term.int (97 : Int32))) : Jvm.Cond).before args s = true := flat_of_before _ h _ (List.mem_of_getElem? (i := 94) rfl)
theorem gv_95 {args : Array Value} {s : State} (h : (Jvm.Cond.and given_1 narrow_1).before args s = true) : ((Jvm.Cond.eq (Jvm.Term.elem (Jvm.Term.field (Jvm.Term.string "ToastCourt$Tape" (95 : Nat)) "java/lang/String" "value" "[B") (Jvm.Term.int (2 : Int32))) (Jvm.Term.int (117 : Int32))) : Jvm.Cond).before args s = true := flat_of_before _ h _ (List.mem_of_getElem? (i := 95) rfl)
theorem gv_96 {args : Array Value} {s : State} (h : (Jvm.Cond.and given_1 narrow_1).before args s = true) : ((Jvm.Cond.eq (Jvm.Term.elem (Jvm.Term.field (Jvm.Term.string "ToastCourt$Tape" (95 : Nat)) "java/lang/String" "value" "[B") (Jvm.Term.int (3 : Int32))) (Jvm.Term.int (115 : Int32))) : Jvm.Cond).before args s = true := flat_of_before _ h _ (List.mem_of_getElem? (i := 96) rfl)
theorem gv_97 {args : Array Value} {s : State} (h : (Jvm.Cond.and given_1 narrow_1).before args s = true) : ((Jvm.Cond.eq (Jvm.Term.elem (Jvm.Term.field (Jvm.Term.string "ToastCourt$Tape" (95 : Nat)) "java/lang/String" "value" "[B") (Jvm.Term.int (4 : Int32))) (Jvm.Term.int (101 : Int32))) : Jvm.Cond).before args s = true := flat_of_before _ h _ (List.mem_of_getElem? (i := 97) rfl)
theorem gv_102 {args : Array Value} {s : State} (h : (Jvm.Cond.and given_1 narrow_1).before args s = true) : ((Jvm.Cond.eq (Jvm.Term.elem (Jvm.Term.field (Jvm.Term.string "ToastCourt$Tape" (103 : Nat)) "java/lang/String" "value" "[B") (Jvm.Term.int (0 : Int32))) (Jvm.Term.int (116 : Int32))) : Jvm.Cond).before args s = true := flat_of_before _ h _ (List.mem_of_getElem? (i := 102) rfl)
theorem gv_103 {args : Array Value} {s : State} (h : (Jvm.Cond.and given_1 narrow_1).before args s = true) : ((Jvm.Cond.eq (Jvm.Term.elem (Jvm.Term.field (Jvm.Term.string "ToastCourt$Tape" (103 : Nat)) "java/lang/String" "value" "[B") (Jvm.Term.int (1 : Int32))) (Jvm.Term.int (101 : Int32))) : Jvm.Cond).before args s = true := flat_of_before _ h _ (List.mem_of_getElem? (i := 103) rfl)
theorem gv_104 {args : Array Value} {s : State} (h : (Jvm.Cond.and given_1 narrow_1).before args s = true) : ((Jvm.Cond.eq (Jvm.Term.elem (Jvm.Term.field (Jvm.Term.string "ToastCourt$Tape" (103 : Nat)) "java/lang/String" "value" "[B") (Jvm.Term.int (2 : Int32))) (Jvm.Term.int (109 : Int32))) : Jvm.Cond).before args s = true := flat_of_before _ h _ (List.mem_of_getElem? (i := 104) rfl)
theorem gv_105 {args : Array Value} {s : State} (h : (Jvm.Cond.and given_1 narrow_1).before args s = true) : ((Jvm.Cond.eq (Jvm.Term.elem (Jvm.Term.field (Jvm.Term.string "ToastCourt$Tape" (103 : Nat)) "java/lang/String" "value" "[B") (Jvm.Term.int (3 : Int32))) (Jvm.Term.int (112 : Int32))) : Jvm.Cond).before args s = true := flat_of_before _ h _ (List.mem_of_getElem? (i := 105) rfl)
theorem gv_106 {args : Array Value} {s : State} (h : (Jvm.Cond.and given_1 narrow_1).before args s = true) : ((Jvm.Cond.eq (Jvm.Term.elem (Jvm.Term.field (Jvm.Term.string "ToastCourt$Tape" (103 : Nat)) "java/lang/String" "value" "[B") (Jvm.Term.int (4 : Int32))) (Jvm.Term.int (101 : Int32))) : Jvm.Cond).before args s = true := flat_of_before _ h _ (List.mem_of_getElem? (i := 106) rfl)
theorem gv_107 {args : Array Value} {s : State} (h : (Jvm.Cond.and given_1 narrow_1).before args s = true) : ((Jvm.Cond.eq (Jvm.Term.elem (Jvm.Term.field (Jvm.Term.string "ToastCourt$Tape" (103 : Nat)) "java/lang/String" "value" "[B") (Jvm.Term.int (5 : Int32))) (Jvm.Term.int (114 : Int32))) : Jvm.Cond).before args s = true := flat_of_before _ h _ (List.mem_of_getElem? (i := 107) rfl)
theorem gv_112 {args : Array Value} {s : State} (h : (Jvm.Cond.and given_1 narrow_1).before args s = true) : ((Jvm.Cond.eq (Jvm.Term.elem (Jvm.Term.field (Jvm.Term.string "ToastCourt$Tape" (107 : Nat)) "java/lang/String" "value" "[B") (Jvm.Term.int (0 : Int32))) (Jvm.Term.int (115 : Int32))) : Jvm.Cond).before args s = true := flat_of_before _ h _ (List.mem_of_getElem? (i := 112) rfl)
theorem gv_113 {args : Array Value} {s : State} (h : (Jvm.Cond.and given_1 narrow_1).before args s = true) : ((Jvm.Cond.eq (Jvm.Term.elem (Jvm.Term.field (Jvm.Term.string "ToastCourt$Tape" (107 : Nat)) "java/lang/String" "value" "[B") (Jvm.Term.int (1 : Int32))) (Jvm.Term.int (105 : Int32))) : Jvm.Cond).before args s = true := flat_of_before _ h _ (List.mem_of_getElem? (i := 113) rfl)
theorem gv_114 {args : Array Value} {s : State} (h : (Jvm.Cond.and given_1 narrow_1).before args s = true) : ((Jvm.Cond.eq (Jvm.Term.elem (Jvm.Term.field (Jvm.Term.string "ToastCourt$Tape" (107 : Nat)) "java/lang/String" "value" "[B") (Jvm.Term.int (2 : Int32))) (Jvm.Term.int (108 : Int32))) : Jvm.Cond).before args s = true := flat_of_before _ h _ (List.mem_of_getElem? (i := 114) rfl)
theorem gv_115 {args : Array Value} {s : State} (h : (Jvm.Cond.and given_1 narrow_1).before args s = true) : ((Jvm.Cond.eq (Jvm.Term.elem (Jvm.Term.field (Jvm.Term.string "ToastCourt$Tape" (107 : Nat)) "java/lang/String" "value" "[B") (Jvm.Term.int (3 : Int32))) (Jvm.Term.int (101 : Int32))) : Jvm.Cond).before args s = true := flat_of_before _ h _ (List.mem_of_getElem? (i := 115) rfl)
theorem gv_116 {args : Array Value} {s : State} (h : (Jvm.Cond.and given_1 narrow_1).before args s = true) : ((Jvm.Cond.eq (Jvm.Term.elem (Jvm.Term.field (Jvm.Term.string "ToastCourt$Tape" (107 : Nat)) "java/lang/String" "value" "[B") (Jvm.Term.int (4 : Int32))) (Jvm.Term.int (110 : Int32))) : Jvm.Cond).before args s = true := flat_of_before _ h _ (List.mem_of_getElem? (i := 116) rfl)
theorem gv_117 {args : Array Value} {s : State} (h : (Jvm.Cond.and given_1 narrow_1).before args s = true) : ((Jvm.Cond.eq (Jvm.Term.elem (Jvm.Term.field (Jvm.Term.string "ToastCourt$Tape" (107 : Nat)) "java/lang/String" "value" "[B") (Jvm.Term.int (5 : Int32))) (Jvm.Term.int (116 : Int32))) : Jvm.Cond).before args s = true := flat_of_before _ h _ (List.mem_of_getElem? (i := 117) rfl)
theorem gv_162 {args : Array Value} {s : State} (h : (Jvm.Cond.and given_1 narrow_1).before args s = true) : ((Jvm.Cond.eq (Jvm.Term.string "ToastCourt$Tape" (65 : Nat)) (Jvm.Term.string "ToastCourtModel" (27 : Nat))) : Jvm.Cond).before args s = true := flat_of_before _ h _ (List.mem_of_getElem? (i := 162) rfl)
theorem gv_171 {args : Array Value} {s : State} (h : (Jvm.Cond.and given_1 narrow_1).before args s = true) : ((Jvm.Cond.eq (Jvm.Term.string "ToastCourt$Tape" (67 : Nat)) (Jvm.Term.string "ToastCourtModel" (29 : Nat))) : Jvm.Cond).before args s = true := flat_of_before _ h _ (List.mem_of_getElem? (i := 171) rfl)
theorem gv_182 {args : Array Value} {s : State} (h : (Jvm.Cond.and given_1 narrow_1).before args s = true) : ((Jvm.Cond.eq (Jvm.Term.string "ToastCourt$Tape" (71 : Nat)) (Jvm.Term.string "ToastCourtModel" (31 : Nat))) : Jvm.Cond).before args s = true := flat_of_before _ h _ (List.mem_of_getElem? (i := 182) rfl)
theorem gv_193 {args : Array Value} {s : State} (h : (Jvm.Cond.and given_1 narrow_1).before args s = true) : ((Jvm.Cond.eq (Jvm.Term.string "ToastCourt$Tape" (73 : Nat)) (Jvm.Term.string "ToastCourtModel" (33 : Nat))) : Jvm.Cond).before args s = true := flat_of_before _ h _ (List.mem_of_getElem? (i := 193) rfl)
theorem gv_204 {args : Array Value} {s : State} (h : (Jvm.Cond.and given_1 narrow_1).before args s = true) : ((Jvm.Cond.eq (Jvm.Term.string "ToastCourt$Tape" (75 : Nat)) (Jvm.Term.string "ToastCourtModel" (35 : Nat))) : Jvm.Cond).before args s = true := flat_of_before _ h _ (List.mem_of_getElem? (i := 204) rfl)
theorem gv_214 {args : Array Value} {s : State} (h : (Jvm.Cond.and given_1 narrow_1).before args s = true) : ((Jvm.Cond.eq (Jvm.Term.string "ToastCourt$Tape" (77 : Nat)) (Jvm.Term.string "ToastCourtModel" (37 : Nat))) : Jvm.Cond).before args s = true := flat_of_before _ h _ (List.mem_of_getElem? (i := 214) rfl)
theorem gv_223 {args : Array Value} {s : State} (h : (Jvm.Cond.and given_1 narrow_1).before args s = true) : ((Jvm.Cond.eq (Jvm.Term.string "ToastCourt$Tape" (79 : Nat)) (Jvm.Term.string "ToastCourtModel" (39 : Nat))) : Jvm.Cond).before args s = true := flat_of_before _ h _ (List.mem_of_getElem? (i := 223) rfl)
theorem gv_267 {args : Array Value} {s : State} (h : (Jvm.Cond.and given_1 narrow_1).before args s = true) : ((Jvm.Cond.eq (Jvm.Term.string "ToastCourt$Tape" (46 : Nat)) (Jvm.Term.string "ToastCourtModel" (288 : Nat))) : Jvm.Cond).before args s = true := flat_of_before _ h _ (List.mem_of_getElem? (i := 267) rfl)
theorem gv_278 {args : Array Value} {s : State} (h : (Jvm.Cond.and given_1 narrow_1).before args s = true) : ((Jvm.Cond.eq (Jvm.Term.string "ToastCourt$Tape" (55 : Nat)) (Jvm.Term.string "ToastCourtModel" (293 : Nat))) : Jvm.Cond).before args s = true := flat_of_before _ h _ (List.mem_of_getElem? (i := 278) rfl)
theorem gv_289 {args : Array Value} {s : State} (h : (Jvm.Cond.and given_1 narrow_1).before args s = true) : ((Jvm.Cond.eq (Jvm.Term.string "ToastCourt$Tape" (60 : Nat)) (Jvm.Term.string "ToastCourtModel" (295 : Nat))) : Jvm.Cond).before args s = true := flat_of_before _ h _ (List.mem_of_getElem? (i := 289) rfl)
theorem gv_233 {args : Array Value} {s : State} (h : (Jvm.Cond.and given_1 narrow_1).before args s = true) : ((Jvm.Cond.eq (Jvm.Term.string "ToastCourt$Tape" (95 : Nat)) (Jvm.Term.string "ToastCourtModel" (270 : Nat))) : Jvm.Cond).before args s = true := flat_of_before _ h _ (List.mem_of_getElem? (i := 233) rfl)
theorem gv_244 {args : Array Value} {s : State} (h : (Jvm.Cond.and given_1 narrow_1).before args s = true) : ((Jvm.Cond.eq (Jvm.Term.string "ToastCourt$Tape" (103 : Nat)) (Jvm.Term.string "ToastCourtModel" (278 : Nat))) : Jvm.Cond).before args s = true := flat_of_before _ h _ (List.mem_of_getElem? (i := 244) rfl)
theorem gv_255 {args : Array Value} {s : State} (h : (Jvm.Cond.and given_1 narrow_1).before args s = true) : ((Jvm.Cond.eq (Jvm.Term.string "ToastCourt$Tape" (107 : Nat)) (Jvm.Term.string "ToastCourtModel" (280 : Nat))) : Jvm.Cond).before args s = true := flat_of_before _ h _ (List.mem_of_getElem? (i := 255) rfl)
theorem gv_4 {args : Array Value} {s : State} (h : (Jvm.Cond.and given_1 narrow_1).before args s = true) : ((Jvm.Cond.eq (Jvm.Term.static "java/lang/String" "COMPACT_STRINGS" "Z") (Jvm.Term.int (1 : Int32))) : Jvm.Cond).before args s = true := flat_of_before _ h _ (List.mem_of_getElem? (i := 4) rfl)
theorem gv_5 {args : Array Value} {s : State} (h : (Jvm.Cond.and given_1 narrow_1).before args s = true) : ((Jvm.Cond.isRef (Jvm.Term.static "jdk/internal/util/Preconditions" "SIOOBE_FORMATTER" "Ljava/util/function/BiFunction;")) : Jvm.Cond).before args s = true := flat_of_before _ h _ (List.mem_of_getElem? (i := 5) rfl)
def kT : List Nat := [65, 67, 71, 73, 75, 77, 79, 46, 55, 60, 95, 103, 107]
def kM : List Nat := [27, 29, 31, 33, 35, 37, 39, 288, 293, 295, 270, 278, 280]
def tmT (i : Nat) : Term := .string "ToastCourt$Tape" (kT.getD i 0)
def tmM (i : Nat) : Term := .string "ToastCourtModel" (kM.getD i 0)
theorem st_ex {args : Array Value} {s : State} (h : (Jvm.Cond.and given_1 narrow_1).before args s = true) : ∀ i, i < 13 → (Cond.exactly (tmT i) "java/lang/String").before args s = true := by
  intro i hi
  rcases (show i = 0 ∨ i = 1 ∨ i = 2 ∨ i = 3 ∨ i = 4 ∨ i = 5 ∨ i = 6 ∨ i = 7 ∨ i = 8 ∨ i = 9 ∨ i = 10 ∨ i = 11 ∨ i = 12 by omega) with rfl | rfl | rfl | rfl | rfl | rfl | rfl | rfl | rfl | rfl | rfl | rfl | rfl
  · exact gv_21 h
  · exact gv_34 h
  · exact gv_42 h
  · exact gv_52 h
  · exact gv_62 h
  · exact gv_72 h
  · exact gv_81 h
  · exact gv_118 h
  · exact gv_129 h
  · exact gv_139 h
  · exact gv_89 h
  · exact gv_98 h
  · exact gv_108 h
theorem st_co {args : Array Value} {s : State} (h : (Jvm.Cond.and given_1 narrow_1).before args s = true) : ∀ i, i < 13 → (Cond.eq (.field (tmT i) "java/lang/String" "coder" "B") (.int 0)).before args s = true := by
  intro i hi
  rcases (show i = 0 ∨ i = 1 ∨ i = 2 ∨ i = 3 ∨ i = 4 ∨ i = 5 ∨ i = 6 ∨ i = 7 ∨ i = 8 ∨ i = 9 ∨ i = 10 ∨ i = 11 ∨ i = 12 by omega) with rfl | rfl | rfl | rfl | rfl | rfl | rfl | rfl | rfl | rfl | rfl | rfl | rfl
  · exact gv_22 h
  · exact gv_35 h
  · exact gv_43 h
  · exact gv_53 h
  · exact gv_63 h
  · exact gv_73 h
  · exact gv_82 h
  · exact gv_119 h
  · exact gv_130 h
  · exact gv_140 h
  · exact gv_90 h
  · exact gv_99 h
  · exact gv_109 h
theorem st_ar {args : Array Value} {s : State} (h : (Jvm.Cond.and given_1 narrow_1).before args s = true) : ∀ i, i < 13 → (Cond.arrayOf (.field (tmT i) "java/lang/String" "value" "[B") .byte).before args s = true := by
  intro i hi
  rcases (show i = 0 ∨ i = 1 ∨ i = 2 ∨ i = 3 ∨ i = 4 ∨ i = 5 ∨ i = 6 ∨ i = 7 ∨ i = 8 ∨ i = 9 ∨ i = 10 ∨ i = 11 ∨ i = 12 by omega) with rfl | rfl | rfl | rfl | rfl | rfl | rfl | rfl | rfl | rfl | rfl | rfl | rfl
  · exact gv_23 h
  · exact gv_36 h
  · exact gv_44 h
  · exact gv_54 h
  · exact gv_64 h
  · exact gv_74 h
  · exact gv_83 h
  · exact gv_120 h
  · exact gv_131 h
  · exact gv_141 h
  · exact gv_91 h
  · exact gv_100 h
  · exact gv_110 h
theorem st_le {args : Array Value} {s : State} (h : (Jvm.Cond.and given_1 narrow_1).before args s = true) : ∀ i, i < 13 → (Cond.eq (.length (.field (tmT i) "java/lang/String" "value" "[B")) (.int (Int32.ofNat (lenS.getD i 0)))).before args s = true := by
  intro i hi
  rcases (show i = 0 ∨ i = 1 ∨ i = 2 ∨ i = 3 ∨ i = 4 ∨ i = 5 ∨ i = 6 ∨ i = 7 ∨ i = 8 ∨ i = 9 ∨ i = 10 ∨ i = 11 ∨ i = 12 by omega) with rfl | rfl | rfl | rfl | rfl | rfl | rfl | rfl | rfl | rfl | rfl | rfl | rfl
  · exact gv_24 h
  · exact gv_37 h
  · exact gv_45 h
  · exact gv_55 h
  · exact gv_65 h
  · exact gv_75 h
  · exact gv_84 h
  · exact gv_121 h
  · exact gv_132 h
  · exact gv_142 h
  · exact gv_92 h
  · exact gv_101 h
  · exact gv_111 h
theorem st_el {args : Array Value} {s : State} (h : (Jvm.Cond.and given_1 narrow_1).before args s = true) : ∀ i, i < 13 → ∀ j, j < lenS.getD i 0 → (Cond.eq (.elem (.field (tmT i) "java/lang/String" "value" "[B") (.int (Int32.ofNat j))) (.int ((bytS.getD i []).getD j 0))).before args s = true := by
  intro i hi
  rcases (show i = 0 ∨ i = 1 ∨ i = 2 ∨ i = 3 ∨ i = 4 ∨ i = 5 ∨ i = 6 ∨ i = 7 ∨ i = 8 ∨ i = 9 ∨ i = 10 ∨ i = 11 ∨ i = 12 by omega) with rfl | rfl | rfl | rfl | rfl | rfl | rfl | rfl | rfl | rfl | rfl | rfl | rfl
  · intro j hj
    have hj : j < 9 := hj
    rcases (show j = 0 ∨ j = 1 ∨ j = 2 ∨ j = 3 ∨ j = 4 ∨ j = 5 ∨ j = 6 ∨ j = 7 ∨ j = 8 by omega) with rfl | rfl | rfl | rfl | rfl | rfl | rfl | rfl | rfl
    · exact gv_25 h
    · exact gv_26 h
    · exact gv_27 h
    · exact gv_28 h
    · exact gv_29 h
    · exact gv_30 h
    · exact gv_31 h
    · exact gv_32 h
    · exact gv_33 h
  · intro j hj
    have hj : j < 4 := hj
    rcases (show j = 0 ∨ j = 1 ∨ j = 2 ∨ j = 3 by omega) with rfl | rfl | rfl | rfl
    · exact gv_38 h
    · exact gv_39 h
    · exact gv_40 h
    · exact gv_41 h
  · intro j hj
    have hj : j < 6 := hj
    rcases (show j = 0 ∨ j = 1 ∨ j = 2 ∨ j = 3 ∨ j = 4 ∨ j = 5 by omega) with rfl | rfl | rfl | rfl | rfl | rfl
    · exact gv_46 h
    · exact gv_47 h
    · exact gv_48 h
    · exact gv_49 h
    · exact gv_50 h
    · exact gv_51 h
  · intro j hj
    have hj : j < 6 := hj
    rcases (show j = 0 ∨ j = 1 ∨ j = 2 ∨ j = 3 ∨ j = 4 ∨ j = 5 by omega) with rfl | rfl | rfl | rfl | rfl | rfl
    · exact gv_56 h
    · exact gv_57 h
    · exact gv_58 h
    · exact gv_59 h
    · exact gv_60 h
    · exact gv_61 h
  · intro j hj
    have hj : j < 6 := hj
    rcases (show j = 0 ∨ j = 1 ∨ j = 2 ∨ j = 3 ∨ j = 4 ∨ j = 5 by omega) with rfl | rfl | rfl | rfl | rfl | rfl
    · exact gv_66 h
    · exact gv_67 h
    · exact gv_68 h
    · exact gv_69 h
    · exact gv_70 h
    · exact gv_71 h
  · intro j hj
    have hj : j < 5 := hj
    rcases (show j = 0 ∨ j = 1 ∨ j = 2 ∨ j = 3 ∨ j = 4 by omega) with rfl | rfl | rfl | rfl | rfl
    · exact gv_76 h
    · exact gv_77 h
    · exact gv_78 h
    · exact gv_79 h
    · exact gv_80 h
  · intro j hj
    have hj : j < 4 := hj
    rcases (show j = 0 ∨ j = 1 ∨ j = 2 ∨ j = 3 by omega) with rfl | rfl | rfl | rfl
    · exact gv_85 h
    · exact gv_86 h
    · exact gv_87 h
    · exact gv_88 h
  · intro j hj
    have hj : j < 7 := hj
    rcases (show j = 0 ∨ j = 1 ∨ j = 2 ∨ j = 3 ∨ j = 4 ∨ j = 5 ∨ j = 6 by omega) with rfl | rfl | rfl | rfl | rfl | rfl | rfl
    · exact gv_122 h
    · exact gv_123 h
    · exact gv_124 h
    · exact gv_125 h
    · exact gv_126 h
    · exact gv_127 h
    · exact gv_128 h
  · intro j hj
    have hj : j < 6 := hj
    rcases (show j = 0 ∨ j = 1 ∨ j = 2 ∨ j = 3 ∨ j = 4 ∨ j = 5 by omega) with rfl | rfl | rfl | rfl | rfl | rfl
    · exact gv_133 h
    · exact gv_134 h
    · exact gv_135 h
    · exact gv_136 h
    · exact gv_137 h
    · exact gv_138 h
  · intro j hj
    have hj : j < 6 := hj
    rcases (show j = 0 ∨ j = 1 ∨ j = 2 ∨ j = 3 ∨ j = 4 ∨ j = 5 by omega) with rfl | rfl | rfl | rfl | rfl | rfl
    · exact gv_143 h
    · exact gv_144 h
    · exact gv_145 h
    · exact gv_146 h
    · exact gv_147 h
    · exact gv_148 h
  · intro j hj
    have hj : j < 5 := hj
    rcases (show j = 0 ∨ j = 1 ∨ j = 2 ∨ j = 3 ∨ j = 4 by omega) with rfl | rfl | rfl | rfl | rfl
    · exact gv_93 h
    · exact gv_94 h
    · exact gv_95 h
    · exact gv_96 h
    · exact gv_97 h
  · intro j hj
    have hj : j < 6 := hj
    rcases (show j = 0 ∨ j = 1 ∨ j = 2 ∨ j = 3 ∨ j = 4 ∨ j = 5 by omega) with rfl | rfl | rfl | rfl | rfl | rfl
    · exact gv_102 h
    · exact gv_103 h
    · exact gv_104 h
    · exact gv_105 h
    · exact gv_106 h
    · exact gv_107 h
  · intro j hj
    have hj : j < 6 := hj
    rcases (show j = 0 ∨ j = 1 ∨ j = 2 ∨ j = 3 ∨ j = 4 ∨ j = 5 by omega) with rfl | rfl | rfl | rfl | rfl | rfl
    · exact gv_112 h
    · exact gv_113 h
    · exact gv_114 h
    · exact gv_115 h
    · exact gv_116 h
    · exact gv_117 h
theorem st_eq {args : Array Value} {s : State} (h : (Jvm.Cond.and given_1 narrow_1).before args s = true) {i a : Nat} (hi : i < 13) (he : (tmT i).eval args s none [] s = some (.ref a)) : (tmM i).eval args s none [] s = some (.ref a) := by
  rcases (show i = 0 ∨ i = 1 ∨ i = 2 ∨ i = 3 ∨ i = 4 ∨ i = 5 ∨ i = 6 ∨ i = 7 ∨ i = 8 ∨ i = 9 ∨ i = 10 ∨ i = 11 ∨ i = 12 by omega) with rfl | rfl | rfl | rfl | rfl | rfl | rfl | rfl | rfl | rfl | rfl | rfl | rfl
  · exact va_eqR (gv_162 h) he
  · exact va_eqR (gv_171 h) he
  · exact va_eqR (gv_182 h) he
  · exact va_eqR (gv_193 h) he
  · exact va_eqR (gv_204 h) he
  · exact va_eqR (gv_214 h) he
  · exact va_eqR (gv_223 h) he
  · exact va_eqR (gv_267 h) he
  · exact va_eqR (gv_278 h) he
  · exact va_eqR (gv_289 h) he
  · exact va_eqR (gv_233 h) he
  · exact va_eqR (gv_244 h) he
  · exact va_eqR (gv_255 h) he
theorem st_one {args : Array Value} {s : State} (h : (Jvm.Cond.and given_1 narrow_1).before args s = true) {A : Nat → Prop} (hA : ∀ a : Nat, a < s.heap.size → ¬ A a) (i : Nat) (hi : i < 13) : ∃ q : Nat × Nat, (tmT i).eval args s none [] s = some (.ref q.1) ∧ va_O "java/lang/String" q.1 A s s.heap ∧ va_OF "java/lang/String" "coder" "B" (.int 0) q.1 A s s.heap ∧ va_OF "java/lang/String" "value" "[B" (.ref q.2) q.1 A s s.heap ∧ va_T .byte q.2 (lenS.getD i 0) (fun j => .int ((bytS.getD i []).getD j 0)) A s s.heap := by
  have hz : ∀ j : Nat, j < 1 → j = 0 := fun j hj => by omega
  have hlen : lenS.getD i 0 < 2 ^ 31 := by
    have h1 : ∀ j, j < 13 → lenS.getD j 0 < 100 := by decide +kernel
    exact Nat.lt_trans (h1 i hi) (by decide)
  obtain ⟨aK, aV, hS, hE⟩ := vk_Sof (N := 1) (args := args) (s := s) (tm := fun _ => tmT i) (len := [lenS.getD i 0]) (byt := [bytS.getD i []]) (A := A) (fun j hj => by rw [hz j hj]; exact hlen) (fun _ _ => st_ex h i hi) (fun _ _ => st_co h i hi) (fun _ _ => st_ar h i hi) (fun j hj => by rw [hz j hj]; exact st_le h i hi) (fun j hj k hk => by rw [hz j hj] at hk ⊢; exact st_el h i hi k hk) (fun j k hj hk e => absurd ((hz j hj).trans (hz k hk).symm) e) hA
  exact ⟨(aK 0, aV 0), hE 0 (by decide), hS.1 0 (by decide)⟩
theorem OF_inj {o n d : String} {v w : Value} {t : Nat} {A : Nat → Prop} {U : State} {H : Heap} (h1 : va_OF o n d v t A U H) (h2 : va_OF o n d w t A U H) : v = w := by
  obtain ⟨cf, k, i, f, cell, a1, -, a3, -, a5, -⟩ := h1
  obtain ⟨cf2, k2, i2, f2, cell2, b1, -, b3, -, b5, -⟩ := h2
  rw [a1] at b1
  cases b1
  rw [a3] at b3
  cases b3
  rw [a5] at b5
  exact Option.some.inj b5
theorem T_inj {ty : FieldType} {t N M : Nat} {f g : Nat → Value} {A : Nat → Prop} {U : State} {H : Heap} (hN : N < 100) (hM : M < 100) (h1 : va_T ty t N f A U H) (h2 : va_T ty t M g A U H) : N = M ∧ ∀ j, j < N → f j = g j := by
  obtain ⟨c1, a1, -, -, -, a5, a6, -⟩ := h1
  obtain ⟨c2, b1, -, -, -, b5, b6, -⟩ := h2
  rw [a1] at b1
  cases b1
  have e : nI N = nI M := a5.symm.trans b5
  have e2 : N = M := (nI_eq (by omega) (by omega)).mp e
  subst e2
  refine ⟨rfl, fun j hj => ?_⟩
  have h3 := a6 j hj
  rw [b6 j hj] at h3
  exact (Option.some.inj h3).symm
theorem st_apart : ∀ i, i < 13 → ∀ j, j < 13 → lenS.getD i 0 = lenS.getD j 0 → (∀ k, k < lenS.getD i 0 → (bytS.getD i []).getD k 0 = (bytS.getD j []).getD k 0) → i = j := by decide +kernel
/-- the texts at the start -/
theorem st_all {args : Array Value} {s : State} (h : (Jvm.Cond.and given_1 narrow_1).before args s = true) {A : Nat → Prop} (hA : ∀ a : Nat, a < s.heap.size → ¬ A a) : ∃ adK adV : Nat → Nat, vk_S 13 lenS bytS adK adV A s s.heap ∧ ∀ i, i < 13 → (tmT i).eval args s none [] s = some (.ref (adK i)) := by
  have h0 : ∀ i : Nat, ∃ q : Nat × Nat, i < 13 → (tmT i).eval args s none [] s = some (.ref q.1) ∧ va_O "java/lang/String" q.1 A s s.heap ∧ va_OF "java/lang/String" "coder" "B" (.int 0) q.1 A s s.heap ∧ va_OF "java/lang/String" "value" "[B" (.ref q.2) q.1 A s s.heap ∧ va_T .byte q.2 (lenS.getD i 0) (fun j => .int ((bytS.getD i []).getD j 0)) A s s.heap := by
    intro i
    by_cases hi : i < 13
    · obtain ⟨q, hq⟩ := st_one h hA i hi
      exact ⟨q, fun _ => hq⟩
    · exact ⟨(0, 0), fun z => absurd z hi⟩
  obtain ⟨ad, had⟩ := Classical.axiomOfChoice h0
  refine ⟨fun i => (ad i).1, fun i => (ad i).2, ⟨fun i hi => (had i hi).2, fun i j hi hj e => ?_⟩, fun i hi => (had i hi).1⟩
  have h1 : ∀ j, j < 13 → lenS.getD j 0 < 100 := by decide +kernel
  obtain ⟨-, -, -, v1, t1⟩ := had i hi
  obtain ⟨-, -, -, v2, t2⟩ := had j hj
  have e' : (ad i).1 = (ad j).1 := e
  rw [← e'] at v2
  have e2 : (ad i).2 = (ad j).2 := Value.ref.inj (OF_inj v1 v2)
  rw [← e2] at t2
  obtain ⟨e3, e4⟩ := T_inj (h1 i hi) (h1 j hj) t1 t2
  refine st_apart i hi j hj e3 (fun k hk => ?_)
  exact Value.int.inj (e4 k hk)
theorem S_ext {N : Nat} {len : List Nat} {byt : List (List Int32)} {f g f' g' : Nat → Nat} {A : Nat → Prop} {U : State} {H : Heap} (h : vk_S N len byt f g A U H) (h1 : ∀ i, i < N → f' i = f i) (h2 : ∀ i, i < N → g' i = g i) : vk_S N len byt f' g' A U H :=
  ⟨fun i hi => by rw [h1 i hi, h2 i hi]; exact h.1 i hi, fun i j hi hj e => h.2 i j hi hj (by rw [← h1 i hi, ← h1 j hj]; exact e)⟩
theorem st_tab {args : Array Value} {s : State} (h : (Jvm.Cond.and given_1 narrow_1).before args s = true) {b : Nat} (hts : ∀ w ∈ lw_tbl, w.before args s = true) {ad : Nat → Nat} (he : ∀ i, i < 13 → (tmT i).eval args s none [] s = some (.ref (ad (61 + i)))) : ∀ q ∈ strTab, vk_R q.1 q.2.1 q.2.2.1 (ad (61 + q.2.2.2)) s :=
  List.forall_mem_cons.mpr ⟨vk_R.of (hts _ (List.mem_append_right _ (List.mem_of_getElem? (i := 529) (by decide +kernel)))) (he 0 (by decide)), List.forall_mem_cons.mpr ⟨vk_R.of (hts _ (List.mem_append_right _ (List.mem_of_getElem? (i := 582) (by decide +kernel)))) (he 1 (by decide)), List.forall_mem_cons.mpr ⟨vk_R.of (hts _ (List.mem_append_right _ (List.mem_of_getElem? (i := 583) (by decide +kernel)))) (he 2 (by decide)), List.forall_mem_cons.mpr ⟨vk_R.of (hts _ (List.mem_append_right _ (List.mem_of_getElem? (i := 584) (by decide +kernel)))) (he 3 (by decide)), List.forall_mem_cons.mpr ⟨vk_R.of (hts _ (List.mem_append_right _ (List.mem_of_getElem? (i := 585) (by decide +kernel)))) (he 4 (by decide)), List.forall_mem_cons.mpr ⟨vk_R.of (hts _ (List.mem_append_right _ (List.mem_of_getElem? (i := 586) (by decide +kernel)))) (he 5 (by decide)), List.forall_mem_cons.mpr ⟨vk_R.of (hts _ (List.mem_append_right _ (List.mem_of_getElem? (i := 587) (by decide +kernel)))) (he 6 (by decide)), List.forall_mem_cons.mpr ⟨vk_R.of (hts _ (List.mem_append_right _ (List.mem_of_getElem? (i := 594) (by decide +kernel)))) (he 10 (by decide)), List.forall_mem_cons.mpr ⟨vk_R.of (hts _ (List.mem_append_right _ (List.mem_of_getElem? (i := 599) (by decide +kernel)))) (he 11 (by decide)), List.forall_mem_cons.mpr ⟨vk_R.of (hts _ (List.mem_append_right _ (List.mem_of_getElem? (i := 600) (by decide +kernel)))) (he 12 (by decide)), List.forall_mem_cons.mpr ⟨vk_R.of (hts _ (List.mem_append_right _ (List.mem_of_getElem? (i := 601) (by decide +kernel)))) (he 7 (by decide)), List.forall_mem_cons.mpr ⟨vk_R.of (hts _ (List.mem_append_right _ (List.mem_of_getElem? (i := 606) (by decide +kernel)))) (he 8 (by decide)), List.forall_mem_cons.mpr ⟨vk_R.of (hts _ (List.mem_append_right _ (List.mem_of_getElem? (i := 611) (by decide +kernel)))) (he 9 (by decide)), List.forall_mem_cons.mpr ⟨vk_R.of (hts _ (List.mem_append_right _ (List.mem_of_getElem? (i := 696) (by decide +kernel)))) (st_eq h (i := 0) (by decide) (he 0 (by decide))), List.forall_mem_cons.mpr ⟨vk_R.of (hts _ (List.mem_append_right _ (List.mem_of_getElem? (i := 697) (by decide +kernel)))) (st_eq h (i := 1) (by decide) (he 1 (by decide))), List.forall_mem_cons.mpr ⟨vk_R.of (hts _ (List.mem_append_right _ (List.mem_of_getElem? (i := 698) (by decide +kernel)))) (st_eq h (i := 2) (by decide) (he 2 (by decide))), List.forall_mem_cons.mpr ⟨vk_R.of (hts _ (List.mem_append_right _ (List.mem_of_getElem? (i := 699) (by decide +kernel)))) (st_eq h (i := 3) (by decide) (he 3 (by decide))), List.forall_mem_cons.mpr ⟨vk_R.of (hts _ (List.mem_append_right _ (List.mem_of_getElem? (i := 700) (by decide +kernel)))) (st_eq h (i := 4) (by decide) (he 4 (by decide))), List.forall_mem_cons.mpr ⟨vk_R.of (hts _ (List.mem_append_right _ (List.mem_of_getElem? (i := 701) (by decide +kernel)))) (st_eq h (i := 5) (by decide) (he 5 (by decide))), List.forall_mem_cons.mpr ⟨vk_R.of (hts _ (List.mem_append_right _ (List.mem_of_getElem? (i := 702) (by decide +kernel)))) (st_eq h (i := 6) (by decide) (he 6 (by decide))), List.forall_mem_cons.mpr ⟨vk_R.of (hts _ (List.mem_append_right _ (List.mem_of_getElem? (i := 1091) (by decide +kernel)))) (st_eq h (i := 10) (by decide) (he 10 (by decide))), List.forall_mem_cons.mpr ⟨vk_R.of (hts _ (List.mem_append_right _ (List.mem_of_getElem? (i := 1100) (by decide +kernel)))) (st_eq h (i := 11) (by decide) (he 11 (by decide))), List.forall_mem_cons.mpr ⟨vk_R.of (hts _ (List.mem_append_right _ (List.mem_of_getElem? (i := 1101) (by decide +kernel)))) (st_eq h (i := 12) (by decide) (he 12 (by decide))), List.forall_mem_cons.mpr ⟨vk_R.of (hts _ (List.mem_append_right _ (List.mem_of_getElem? (i := 1106) (by decide +kernel)))) (st_eq h (i := 7) (by decide) (he 7 (by decide))), List.forall_mem_cons.mpr ⟨vk_R.of (hts _ (List.mem_append_right _ (List.mem_of_getElem? (i := 1111) (by decide +kernel)))) (st_eq h (i := 8) (by decide) (he 8 (by decide))), List.forall_mem_cons.mpr ⟨vk_R.of (hts _ (List.mem_append_right _ (List.mem_of_getElem? (i := 1112) (by decide +kernel)))) (st_eq h (i := 9) (by decide) (he 9 (by decide))), fun _ z => absurd z List.not_mem_nil⟩⟩⟩⟩⟩⟩⟩⟩⟩⟩⟩⟩⟩⟩⟩⟩⟩⟩⟩⟩⟩⟩⟩⟩⟩⟩
theorem st_start {args : Array Value} {s : State} (h : (Jvm.Cond.and given_1 narrow_1).before args s = true) (hts : ∀ w ∈ lw_tbl, w.before args s = true) {A : Nat → Prop} (hA : ∀ a : Nat, a < s.heap.size → ¬ A a) (b : Nat) (D : va_G) (tt : Nat → ClassId) : ∃ (ad : Nat → Nat) (fm : Option Nat), ad 87 = b ∧ STR (D, ad, tt, fm) A s s.heap := by
  obtain ⟨adK, adV, hS, hE⟩ := st_all h hA
  have hc := va_Zof (v := .int 1) (hts _ (List.mem_append_right _ (List.mem_of_getElem? (i := 543) (by decide +kernel)))) (hts _ (List.mem_append_right _ (List.mem_of_getElem? (i := 10) (by decide +kernel)))) (va_eqi (gv_4 h)) hA
  have hz := va_Zqof (hts _ (List.mem_append_right _ (List.mem_of_getElem? (i := 559) (by decide +kernel)))) (hts _ (List.mem_append_right _ (List.mem_of_getElem? (i := 12) (by decide +kernel)))) (gv_5 h) hA
  obtain ⟨ad, e1, e2, e3⟩ : ∃ ad : Nat → Nat, ad 87 = b ∧ (∀ i, i < 13 → ad (61 + i) = adK i) ∧ (∀ i, i < 13 → ad (74 + i) = adV i) := by
    refine ⟨fun i => if i = 87 then b else if 74 ≤ i then adV (i - 74) else adK (i - 61), rfl, fun i hi => ?_, fun i hi => ?_⟩
    · show (if 61 + i = 87 then b else if 74 ≤ 61 + i then adV (61 + i - 74) else adK (61 + i - 61)) = adK i
      rw [if_neg (by omega), if_neg (by omega), Nat.add_sub_cancel_left]
    · show (if 74 + i = 87 then b else if 74 ≤ 74 + i then adV (74 + i - 74) else adK (74 + i - 61)) = adV i
      rw [if_neg (by omega), if_pos (by omega), Nat.add_sub_cancel_left]
  have hR : ∀ q ∈ strTab, vk_R q.1 q.2.1 q.2.2.1 (ad (61 + q.2.2.2)) s := st_tab (b := b) h hts (fun i hi => by rw [e2 i hi]; exact hE i hi)
  rcases hz with hz | ⟨t, hz⟩
  · exact ⟨ad, none, e1, S_ext hS e2 e3, hc, hz, hR⟩
  · exact ⟨ad, some t, e1, S_ext hS e2 e3, hc, hz, hR⟩
